/-! ===== the best team: both; team, stands ===== -/
section TEAM
variable {E : MEnv} {B G I : II} {T : TT} {Q : QQ} {F S n : Nat} {cd : Nat → Nat × Int32} {r q : Nat → Int32}
theorem findS_cm (B : II) (F n : Nat) (cd : Nat → Nat × Int32) (s : Nat) : findS B F n cd s = fillS F (B 6) (cmA B n cd s) 4 0 (nI 0) (nI 0) (fun _ => -1) (-1, -1, fun _ => -1) := rfl
/-- a stage's best team is there -/
def has4 (J : II) (s : Nat) (σ : SG) : Prop := J 40 s = σ.1 ∧ J 41 s = σ.2.1 ∧ ∀ p, p < 4 → J 39 (4 * s + p) = σ.2.2 p
theorem bit_is {k s : Nat} (hk : k < 256) (hs : s < 8) : (((nI k) >>> (nI s &&& 31)) &&& 1) = 1 ↔ k.testBit s = true := by
  rw [shr_and k hk s hs, Nat.testBit_eq_decide_div_mod_eq, decide_eq_true_iff]
  exact nI_eq (a := k / 2 ^ s % 2) (b := 1) (by omega) (by omega)
theorem qf_find (hA : InvA B F S n cd) {s e : Nat} {X : Nat × (Nat → Int32)} (hs : s < S) (he : 4 ≤ e) (hq : ∀ J, rs B J → Sr J F S n cd → has4 J s (findS B F n cd s) → Q (.inl none) J T) : ev (e + 1, X) 219 0 [some (.ref 36), some (.ref 28), some (.int (nI s)), none, none, none] [] B T Q := by
  have hC := hA.1
  have h6 := hC.S6
  obtain ⟨⟨k, hk, ek⟩, hS⟩ := hA.2.2.2.2.2.2
  refine s_Search_find_28_0 ?_
  unfold t_Search_find_28_0 t_Search_find_28_13
  refine q_within _ _ _ ?_
  rw [show wI (nI s) 0 5 = 1 from wI_n (b := 5) (by omega) (by decide)]
  refine bq_f (by decide) ?_
  refine ⟨fun c => ?_, fun c => ⟨gix (by omega) (by omega), gix (by omega) (by omega), ?_⟩⟩
  · exact hq B (rs.refl B) hA.2.2.2.2.2.2 (hS s hs c)
  · rw [nI_clamp (by omega)]
    have f0 : FR [18, 19, 36, 37, 38, 39, 40, 41] B (m_up (m_up (m_up B 36 5 ((B 36 5) ||| ((1 : Int32) <<< (nI s &&& 31)))) 40 s (-1)) 41 s (-1)) := ((FR.up (by decide) _ _).trans (FR.up (by decide) _ _)).trans (FR.up (by decide) _ _)
    refine l_fd1 hC (by omega) 4 0 _ (f0.rs (by decide)) (by omega) (fun p' f' z' _ _ _ e => by omega) (fun k hk => by omega) (fun G hG g1 g2 g3 => ?_)
    have hrG : rs B G := (f0.trans (hG.mono (by decide))).rs (by decide)
    have e36 : G 36 = (m_up (m_up (m_up B 36 5 ((B 36 5) ||| ((1 : Int32) <<< (nI s &&& 31)))) 40 s (-1)) 41 s (-1)) 36 := hG 36 (by decide)
    have e40 : G 40 = (m_up (m_up (m_up B 36 5 ((B 36 5) ||| ((1 : Int32) <<< (nI s &&& 31)))) 40 s (-1)) 41 s (-1)) 40 := hG 40 (by decide)
    have e41 : G 41 = (m_up (m_up (m_up B 36 5 ((B 36 5) ||| ((1 : Int32) <<< (nI s &&& 31)))) 40 s (-1)) 41 s (-1)) 41 := hG 41 (by decide)
    have hf0 : fI F (fun _ => -1) 0 0 0 := ⟨by decide, by decide, by decide, fun j hj => absurd hj (Nat.not_lt_zero j)⟩
    refine fl_all hC hrG g1 hs 4 e 0 0 0 (fun _ => -1) (-1, -1, fun _ => -1) G _ he (by omega) hf0 ⟨FR.refl _ _, ?_, ?_, fun p hp => g2 p hp, fun _ _ => ⟨rfl, rfl⟩, fun _ _ => rfl⟩ (fun j hj => absurd hj (Nat.not_lt_zero j)) (fun J hJ _ => ?_)
    · rw [e40]; show (if s = s then (-1 : Int32) else B 40 s) = _; rw [if_pos rfl]
    · rw [e41]; show (if s = s then (-1 : Int32) else B 41 s) = _; rw [if_pos rfl]
    · obtain ⟨j1, j2, j3, j4, j5, j6⟩ := hJ
      have hrJ : rs B J := hrG.trans (j1.rs (by decide))
      have j36 : J 36 5 = nI (k ||| 2 ^ s) := by
        rw [j1 36 (by decide), e36]
        show B 36 5 ||| ((1 : Int32) <<< (nI s &&& 31)) = _
        rw [ek, shl_one ⟨s, by omega⟩, fa_or]
      have hk2 : k ||| 2 ^ s < 64 := Nat.or_lt_two_pow (n := 6) hk (Nat.pow_lt_pow_right (by omega) (by omega))
      refine hq J hrJ ⟨⟨k ||| 2 ^ s, hk2, j36⟩, fun u hu hb => ?_⟩ ⟨j2, j3, j4⟩
      rw [findS_rs hrJ]
      by_cases eu : u = s
      · subst eu; exact ⟨j2, j3, j4⟩
      · rw [j36, bit_is (by omega) (by omega), fb_bit_set, decide_eq_false eu, Bool.or_false, ← bit_is (by omega) (by omega), ← ek] at hb
        obtain ⟨a1, a2, a3⟩ := hS u hu hb
        refine ⟨?_, ?_, fun p hp => ?_⟩
        · rw [(j5 u eu).1, e40, ← a1]
          show (if u = s then (-1 : Int32) else B 40 u) = _
          rw [if_neg eu]
        · rw [(j5 u eu).2, e41, ← a2]
          show (if u = s then (-1 : Int32) else B 41 u) = _
          rw [if_neg eu]
        · rw [j6 _ (by omega), g3 _ (by omega)]
          exact a3 p hp
/-! the reference -/
def mH (B I : II) (σ : SG) : Prop := ro B I ∧ I 46 0 = 0 ∧ I 46 42 = σ.1 ∧ I 46 43 = σ.2.1 ∧ ∀ p, p < 4 → I 532 p = σ.2.2 p
theorem mH_F {σ : SG} {J : II} (h : mH B I σ) (hJ : FR [425, 426, 531] I J) : mH B J σ := ⟨h.1.trans (hJ.ro (by decide)), by rw [hJ 46 (by decide)]; exact h.2.1, by rw [hJ 46 (by decide)]; exact h.2.2.1, by rw [hJ 46 (by decide)]; exact h.2.2.2.1, fun p hp => by rw [hJ 532 (by decide)]; exact h.2.2.2.2 p hp⟩
theorem qm_forceF (hI : Core B F S n cd) (h : ro B I) {f : Nat} (hf : f < F) (p z : Int32) (hq : ∀ J, FR [425, 426] I J → Q (.inl (some (.int (frA B n cd f p z)))) J T) : ev E 158 0 [some (.ref 46), some (.ref 508), some (.int (nI f)), some (.int p), some (.int z)] [] I T Q := by
  have h8 := hI.F8
  refine p_mforceOf_508 (hI.lr.ro h) (by omega) p z (fun J hJ => ?_)
  obtain ⟨e1, e2, -⟩ := hI.fe hf
  rw [h.cell (c := 508) (by decide), h.cell (c := 61 + f) (scr_rng (a := 61) (b := 69) (by omega) (by omega) (by decide)), e1, e2, hI.q (by omega), hI.q (by omega), hI.q (by omega), hI.q (by omega)]
  exact hq J hJ
theorem l_w3 {σ : SG} {tk : Nat → Int32} : ∀ (d p : Nat) (I : II), ro B I → I 46 0 = 0 → I 46 42 = σ.1 → I 46 43 = σ.2.1 → (∀ j, j < 4 → I 531 j = tk j) → (∀ j, j < p → I 532 j = tk j) → p + d = 4 → (∀ J, mH B J (σ.1, σ.2.1, tk) → J 531 = I 531 → Q (.inl none) J T) → t_M_weighs_100 E I T Q (nI p)
  | 0, p, I, h, h0, h1, h2, ht, hb, hp, hq => by
    unfold t_M_weighs_100
    exact bq_t (nI_le (a := 4) (b := p) (by omega) (by omega)) (hq I ⟨h, h0, h1, h2, fun j hj => hb j (by omega)⟩ rfl)
  | d + 1, p, I, h, h0, h1, h2, ht, hb, hp, hq => by
    unfold t_M_weighs_100
    refine bq_f (nI_ge (a := p) (b := 4) (by omega) (by omega)) ⟨gix (by omega) (by omega), gix (by omega) (by omega), ?_⟩
    rw [nI_clamp (by omega), nI_1]
    refine s_M_weighs_100 (l_w3 d (p + 1) _ (h.trans (ro_up I (by decide) _ _)) h0 h1 h2 ht (fun j hj => ?_) (by omega) hq)
    rw [m_up_at]
    by_cases e : j = p
    · subst e; rw [if_pos rfl]; exact ht j (by omega)
    · rw [if_neg e]; exact hb j (by omega)
theorem l_w2 (hC : Core B F S n cd) {s c : Nat} (hs : s < S) {σ : SG} {tk : Nat → Int32} (hf : ∀ j, j < 4 → tk j = -1 ∨ ∃ f, f < F ∧ tk j = nI f) : ∀ (d p : Nat) (a : Int32 × Int32) (I : II), mH B I σ → (∀ j, j < 4 → I 531 j = tk j) → p + d = 4 → rep (swS (frA B n cd) tk (nI c)) d p a = sw4 (frA B n cd) tk (nI c) → (∀ J, mH B J (cmpS (B 7 s) (B 8 s) (B 3 7) (frA B n cd) (nI c) tk σ) → J 531 = I 531 → Q (.inl none) J T) → t_M_weighs_27 E I T Q (nI s) (nI c) a.1 a.2 (nI p)
  | 0, p, a, I, h, ht, hp, ha, hq => by
    have ha2 : a = sw4 (frA B n cd) tk (nI c) := ha
    unfold cmpS at hq
    rw [← ha2] at hq
    unfold t_M_weighs_27 t_M_weighs_71 t_M_weighs_91 t_M_weighs_92
    refine bq_t (nI_le (a := 4) (b := p) (by omega) (by omega)) ?_
    have no : ¬ bet (B 7 s) (B 8 s) (B 3 7) a σ = true → Q (.inl none) I T := fun z => by
      rw [if_neg z] at hq; exact hq I h rfl
    have yes : bet (B 7 s) (B 8 s) (B 3 7) a σ = true → t_M_weighs_100 E (m_up (m_up I 46 42 a.1) 46 43 (ab a.2)) T Q 0 := fun z => by
      rw [if_pos z] at hq
      exact l_w3 (σ := (a.1, ab a.2, tk)) 4 0 _ (h.1.trans ((ro_46 I (by omega) _).trans (ro_46 _ (by omega) _))) h.2.1 rfl rfl ht (fun j hj => absurd hj (Nat.not_lt_zero j)) (by omega) hq
    have body : ∀ y, y = ab a.2 → ev E 165 0 [some (.ref 46), some (.int (nI s)), some (.int a.1), some (.int y)] [] I T (KI (fun v1 I1 T1 => (v1 = 2 → ((a.1 < (I1 46 42) → (Q (.inl none) I1 T1)) ∧ (¬ (a.1 < (I1 46 42)) → ((a.1 = (I1 46 42) → ((y < (I1 46 43) → (t_M_weighs_100 E (m_up (m_up I1 46 42 a.1) 46 43 y) T1 Q 0)) ∧ (¬ (y < (I1 46 43)) → (Q (.inl none) I1 T1)))) ∧ (¬ (a.1 = (I1 46 42)) → (t_M_weighs_100 E (m_up (m_up I1 46 42 a.1) 46 43 y) T1 Q 0)))))) ∧ (¬ (v1 = 2) → (Q (.inl none) I1 T1))) (fun x I1 T1 => Q (.inr x) I1 T1)) := by
      intro y hy
      subst hy
      refine qm_comesBy hC h.1 hs _ _ ?_
      show (_ → _) ∧ (_ → _)
      rw [h.2.2.1, h.2.2.2.1]
      refine ⟨fun c1 => ?_, fun c1 => no (fun z => c1 ((outc_2 _ _ _ _ _).mpr ((bet_iff _ _ _ _ _).mp z).1))⟩
      have c2 := (outc_2 _ _ _ _ _).mp c1
      refine ⟨fun n1 => no (fun z => ((bet_iff _ _ _ _ _).mp z).2.1 n1), fun n1 => ⟨fun n2 => ⟨fun n3 => yes ((bet_iff _ _ _ _ _).mpr ⟨c2, n1, fun _ => n3⟩), fun n3 => no (fun z => n3 (((bet_iff _ _ _ _ _).mp z).2.2 n2))⟩, fun n2 => yes ((bet_iff _ _ _ _ _).mpr ⟨c2, n1, fun e => absurd e n2⟩)⟩⟩
    refine ⟨fun c1 => body _ ?_, fun c1 => body _ ?_⟩
    · unfold ab; rw [if_pos c1]
    · unfold ab; rw [if_neg c1]
  | d + 1, p, a, I, h, ht, hp, ha, hq => by
    have h8 := hC.F8
    unfold t_M_weighs_27 t_M_weighs_61 t_M_weighs_63
    refine bq_f (nI_ge (a := p) (b := 4) (by omega) (by omega)) ⟨gix (by omega) (by omega), ?_⟩
    rw [nI_clamp (by omega), ht p (by omega), nI_1 p]
    rw [rep] at ha
    refine ⟨fun c1 => ?_, fun c1 => ⟨⟨nI_pos (by omega), by omega⟩, ?_⟩⟩
    · have e : swS (frA B n cd) tk (nI c) p a = a := if_pos c1
      rw [e] at ha
      exact s_M_weighs_27 (l_w2 hC hs hf d (p + 1) a I h ht (by omega) ha hq)
    · obtain ⟨f, hf1, hf2⟩ := (hf p (by omega)).resolve_left c1
      rw [hf2]
      have ek : (tk p).toNatClampNeg = f := by rw [hf2, nI_clamp (by omega)]
      have ev4 := even4 ⟨p, by omega⟩
      simp only at ev4
      refine qm_forceF hC h.1 hf1 _ _ (fun J hJ => ?_)
      have h2 : mH B J σ := mH_F h (hJ.mono (by decide))
      have ht2 : ∀ j, j < 4 → J 531 j = tk j := fun j hj => by rw [hJ 531 (by decide)]; exact ht j hj
      refine ⟨fun c2 => ?_, fun c2 => ?_⟩
      · have e : swS (frA B n cd) tk (nI c) p a = (a.1 + frA B n cd f (nI p) (nI c), a.2 + frA B n cd f (nI p) (nI c)) := by unfold swS; rw [if_neg c1, ek, if_pos (ev4.mp c2)]
        rw [e] at ha
        exact s_M_weighs_27 (l_w2 hC hs hf d (p + 1) (a.1 + frA B n cd f (nI p) (nI c), a.2 + frA B n cd f (nI p) (nI c)) J h2 ht2 (by omega) ha (fun K hK e => hq K hK (by rw [e]; exact hJ 531 (by decide))))
      · have e : swS (frA B n cd) tk (nI c) p a = (a.1 + frA B n cd f (nI p) (nI c), a.2 + (0 - frA B n cd f (nI p) (nI c))) := by unfold swS; rw [if_neg c1, ek, if_neg (fun z => c2 (ev4.mpr z))]
        rw [e] at ha
        exact s_M_weighs_27 (l_w2 hC hs hf d (p + 1) (a.1 + frA B n cd f (nI p) (nI c), a.2 + (0 - frA B n cd f (nI p) (nI c))) J h2 ht2 (by omega) ha (fun K hK e => hq K hK (by rw [e]; exact hJ 531 (by decide))))
theorem l_w1 {s : Nat} {tk : Nat → Int32} (ht : ∀ j, j < 4 → I 531 j = tk j) (hq : t_M_weighs_27 E I T Q (nI s) (nI (tkc tk 4)) 0 0 0) : ∀ (d p : Nat), p + d = 4 → t_M_weighs_8 E I T Q (nI s) (nI (tkc tk p)) 0 0 (nI p)
  | 0, p, hp => by
    have e : p = 4 := by omega
    subst e
    unfold t_M_weighs_8
    exact bq_t (by decide) hq
  | d + 1, p, hp => by
    unfold t_M_weighs_8 t_M_weighs_21
    refine bq_f (nI_ge (a := p) (b := 4) (by omega) (by omega)) ⟨gix (by omega) (by omega), ?_⟩
    have hn := l_w1 ht hq d (p + 1) (by omega)
    have es : tkc tk (p + 1) = tkc tk p + (if decide (tk p ≠ -1) = true then 1 else 0) := fb_ct_succ _ _
    rw [nI_clamp (by omega), ht p (by omega), nI_1 p]
    refine ⟨fun c => ?_, fun c => ?_⟩
    · rw [if_neg (by simpa using c), Nat.add_zero] at es
      rw [es] at hn
      rw [Int32.add_zero]
      exact s_M_weighs_8 hn
    · rw [if_pos (decide_eq_true c)] at es
      rw [es] at hn
      rw [nI_1]
      exact s_M_weighs_8 hn
theorem qf_weighs (hC : Core B F S n cd) {s m m2 : Nat} (hs : s < S) {σ : SG} (h : mH B I σ) {tk : Nat → Int32} (hf : fI F tk 4 m m2) (ht : ∀ j, j < 4 → I 531 j = tk j) (hq : ∀ J, mH B J (cmA B n cd s (nI m) tk σ) → J 531 = I 531 → Q (.inl none) J T) : ev E 227 0 [some (.ref 46), some (.int (nI s)), none, none, none, none, none] [] I T Q := by
  obtain ⟨a1, a2, a3, a4⟩ := hf
  unfold cmA at hq
  rw [a3] at hq
  refine s_M_weighs_0 ?_
  unfold t_M_weighs_0
  exact l_w1 ht (l_w2 hC hs a4 4 0 (0, 0) I h ht (by omega) rfl hq) 4 0 (by omega)
def mlP (B : II) (F S n : Nat) (cd : Nat → Nat × Int32) (s : Nat) (T : TT) (X : Nat × (Nat → Int32)) (k : Nat) : Prop := ∀ (e p m m2 : Nat) (tk : Nat → Int32) (σ : SG) (I : II) (Q : QQ), k ≤ e → p + k = 4 → fI F tk p m m2 → mH B I σ → (∀ j, j < p → I 531 j = tk j) → (∀ J, mH B J (fillS F (B 6) (cmA B n cd s) k p (nI m) (nI m2) tk σ) → (∀ j, j < p → J 531 j = tk j) → Q (.inl none) J T) → ev (e + 1, X) 226 0 [some (.ref 46), some (.int (nI s)), some (.int (nI p)), some (.int (nI m)), some (.int (nI m2)), none] [] I T Q
theorem ml_loop (hC : Core B F S n cd) {s k : Nat} {X : Nat × (Nat → Int32)} (ih : mlP B F S n cd s T X k) {e p m m2 : Nat} (he : k + 1 ≤ e) (hp : p + (k + 1) = 4) {tk : Nat → Int32} (hf : fI F tk p m m2) : ∀ (d f : Nat) (σ : SG) (I : II), mH B I σ → (∀ j, j < p → I 531 j = tk j) → f + d = F → (∀ J, mH B J (fillS F (B 6) (cmA B n cd s) k (p + 1) (nI m) (nI m2) (upd tk p (-1)) (rep (fun f s9 => if (((nI m ||| nI m2) >>> (nI f &&& 31)) &&& 1) = 0 then fillS F (B 6) (cmA B n cd s) k (p + 1) (nI m ||| ((1 : Int32) <<< (nI f &&& 31))) (nI m2 ||| B 6 f) (upd tk p (nI f)) s9 else s9) d f σ)) → (∀ j, j < p → J 531 j = tk j) → Q (.inl none) J T) → t_M_places_9 e X I T Q (nI s) (nI p) (nI m) (nI m2) (nI f)
  | 0, f, σ, I, h, hj, hfd, hq => by
    have h8 := hC.F8
    unfold t_M_places_9
    rw [(hC.2.1.ro h.1).1, nI_1 p, nI_clamp (show p < 2 ^ 31 by omega)]
    refine bq_t (nI_le (by omega) (by omega)) ⟨⟨nI_pos (by omega), by omega⟩, ?_⟩
    obtain ⟨e', rfl⟩ : ∃ e', e = e' + 1 := ⟨e - 1, by omega⟩
    refine ih e' (p + 1) m m2 (upd tk p (-1)) σ _ _ (by omega) (by omega) (fI_no hf) (mH_F h (FR.up (by decide) _ _)) (fun j hj2 => ?_) (fun J hJ hj3 => ?_)
    · rw [m_up_at]
      by_cases c : j = p
      · subst c; rw [if_pos rfl, upd_at]
      · rw [if_neg c, upd_ne c]; exact hj j (by omega)
    · exact hq J hJ (fun j hj2 => by rw [hj3 j (by omega), upd_ne (by omega)])
  | d + 1, f, σ, I, h, hj, hfd, hq => by
    have h8 := hC.F8
    unfold t_M_places_9 t_M_places_44
    rw [(hC.2.1.ro h.1).1, nI_1 p, nI_1 f, nI_clamp (show p < 2 ^ 31 by omega), nI_clamp (show f < 2 ^ 31 by omega)]
    refine bq_f (nI_ge (by omega) (by omega)) ?_
    rw [rep] at hq
    refine p_has _ _ ?_
    by_cases c : (((nI m ||| nI m2) >>> (nI f &&& 31)) &&& 1) = 0
    · rw [if_neg (by rw [c]; decide)]
      rw [if_pos c] at hq
      have h2 : mH B (m_up I 531 p (nI f)) σ := mH_F h (FR.up (by decide) _ _)
      obtain ⟨-, -, e84, -, -, k6, hk6, e6⟩ := hC.fe (show f < F by omega)
      refine bq_t rfl ⟨⟨nI_pos (by omega), by omega⟩, ⟨nI_pos (by omega), by omega⟩, ?_⟩
      have e8 : (m_up I 531 p (nI f)) 84 f = nI k6 := by rw [h2.1.cell (c := 84) (by decide), e84, e6]
      rw [e8]
      rw [e6] at hq
      have es : nI m ||| ((1 : Int32) <<< (nI f &&& 31)) = nI (m ||| 2 ^ f) := by rw [shl_one ⟨f, by omega⟩, fa_or]
      rw [es, fa_or m2 k6] at hq
      rw [es, fa_or m2 k6]
      obtain ⟨e', rfl⟩ : ∃ e', e = e' + 1 := ⟨e - 1, by omega⟩
      refine ih e' (p + 1) (m ||| 2 ^ f) (m2 ||| k6) (upd tk p (nI f)) σ _ _ (by omega) (by omega) (fI_in h8 hf (by omega) hk6 c) h2 (fun j hj2 => ?_) (fun J hJ hj3 => ?_)
      · rw [m_up_at]
        by_cases c : j = p
        · subst c; rw [if_pos rfl, upd_at]
        · rw [if_neg c, upd_ne c]; exact hj j (by omega)
      · exact s_M_places_9 (ml_loop hC ih he hp hf d (f + 1) _ J hJ (fun j hj2 => by rw [hj3 j (by omega), upd_ne (by omega)]) (by omega) hq)
    · rw [if_pos ((and1 _).resolve_left c)]
      rw [if_neg c] at hq
      exact bq_f (by decide) (s_M_places_9 (ml_loop hC ih he hp hf d (f + 1) σ I h hj (by omega) hq))
theorem ml_all (hC : Core B F S n cd) {s : Nat} (hs : s < S) {X : Nat × (Nat → Int32)} : ∀ k, mlP B F S n cd s T X k
  | 0 => by
    intro e p m m2 tk σ I Q he hp hf h hj hq
    have e4 : p = 4 := by omega
    subst e4
    refine s_M_places_0 ?_
    unfold t_M_places_0
    refine bq_t rfl ?_
    refine qf_weighs hC hs h hf hj (fun J hJ e => ?_)
    exact hq J hJ (fun j hj2 => by rw [e]; exact hj j hj2)
  | k + 1 => by
    intro e p m m2 tk σ I Q he hp hf h hj hq
    refine s_M_places_0 ?_
    unfold t_M_places_0
    refine bq_f (fun z => by have := (nI_eq (a := p) (b := 4) (by omega) (by omega)).mp z; omega) ?_
    exact ml_loop hC (ml_all hC hs k) he hp hf F 0 σ I h hj (by omega) hq
theorem l_lays {e s : Nat} {X : Nat × (Nat → Int32)} (hC : Core B F S n cd) (hs : s < S) (he : 4 ≤ e) (hq : ∀ J, mH B J (findS B F n cd s) → Q (.inl none) J T) : ∀ (d p : Nat) (I : II), ro B I → I 46 0 = 0 → I 46 42 = -1 → I 46 43 = -1 → (∀ j, j < p → I 532 j = -1) → p + d = 4 → t_M_laysTeam_8 (e + 1, X) I T Q (nI s) (nI p)
  | 0, p, I, h, h0, h1, h2, hb, hp => by
    unfold t_M_laysTeam_8
    refine bq_t (nI_le (a := 4) (b := p) (by omega) (by omega)) ?_
    have hf0 : fI F (fun _ => -1) 0 0 0 := ⟨by decide, by decide, by decide, fun j hj => absurd hj (Nat.not_lt_zero j)⟩
    exact ml_all hC hs 4 e 0 0 0 (fun _ => -1) (-1, -1, fun _ => -1) I _ he (by omega) hf0 ⟨h, h0, h1, h2, fun j hj => hb j (by omega)⟩ (fun j hj => absurd hj (Nat.not_lt_zero j)) (fun J hJ _ => hq J hJ)
  | d + 1, p, I, h, h0, h1, h2, hb, hp => by
    unfold t_M_laysTeam_8
    refine bq_f (nI_ge (a := p) (b := 4) (by omega) (by omega)) ⟨gix (by omega) (by omega), ?_⟩
    rw [nI_clamp (by omega), nI_1]
    refine s_M_laysTeam_8 (l_lays hC hs he hq d (p + 1) _ (h.trans (ro_up I (by decide) _ _)) h0 h1 h2 (fun j hj => ?_) (by omega))
    rw [m_up_at]
    by_cases e : j = p
    · rw [if_pos e]
    · rw [if_neg e]; exact hb j (by omega)
theorem qf_laysTeam {e s : Nat} {X : Nat × (Nat → Int32)} (hC : Core B F S n cd) (hs : s < S) (he : 4 ≤ e) (h : ro B I) (h0 : I 46 0 = 0) (hq : ∀ J, mH B J (findS B F n cd s) → Q (.inl none) J T) : ev (e + 1, X) 225 0 [some (.ref 46), some (.int (nI s)), none] [] I T Q := by
  refine s_M_laysTeam_0 ?_
  unfold t_M_laysTeam_0
  exact l_lays hC hs he hq 4 0 _ (h.trans ((ro_46 I (by omega) _).trans (ro_46 _ (by omega) _))) h0 rfl rfl (fun j hj => absurd hj (Nat.not_lt_zero j)) (by omega)
theorem xq_team (hA : InvA B F S n cd) (hT : TG T) {e : Nat} {X : Nat × (Nat → Int32)} (he : 4 ≤ e) {s : Nat} (hs : s < S) {j : Nat} (hj : j ≤ 1) (hq : ∀ J, rs B J → Sr J F S n cd → Q (.inl (some (.int (if j = 0 then (findS B F n cd s).1 else (findS B F n cd s).2.1)))) J T) : ev (e + 1, X) 217 0 [some (.ref 0), some (.int (nI s)), some (.int (nI j))] [] B T Q := by
  have hC := hA.1
  have h8 := hC.F8
  have h6 := hC.S6
  refine s_X_team_0 ?_
  unfold t_X_team_0 t_X_team_24
  refine q_needS hA.1.1 hT _ (fun _ => ?_) (fun q => absurd ⟨s, hs, rfl⟩ q)
  refine q_within _ _ _ ?_
  rw [show wI (nI j) 0 1 = 1 from wI_n (b := 1) hj (by decide)]
  refine q_need hT _ (fun _ => ?_) (fun q => absurd q (by decide))
  match j, hj with
  | 0, _ =>
    refine bq_t rfl ?_
    refine s_Search_strengthFor_28_0 ?_
    unfold t_Search_strengthFor_28_0 t_Search_strengthFor_28_15
    refine qf_find hA hs he (fun J hJ hS h4 => ?_)
    refine q_within _ _ _ ?_
    rw [show wI (nI s) 0 5 = 1 from wI_n (b := 5) (by omega) (by decide)]
    refine bq_f (by decide) ⟨gix (by omega) (by omega), ?_⟩
    rw [nI_clamp (by omega), h4.1]
    exact hq J hJ hS
  | 1, _ =>
    refine bq_f (by decide) ?_
    refine s_Search_tiltFor_28_0 ?_
    unfold t_Search_tiltFor_28_0 t_Search_tiltFor_28_15
    refine qf_find hA hs he (fun J hJ hS h4 => ?_)
    refine q_within _ _ _ ?_
    rw [show wI (nI s) 0 5 = 1 from wI_n (b := 5) (by omega) (by decide)]
    refine bq_f (by decide) ⟨gix (by omega) (by omega), ?_⟩
    rw [nI_clamp (by omega), h4.2.1]
    exact hq J hJ hS
theorem mq_team (hC : Core B F S n cd) (h : ro B I) {e : Nat} {X : Nat × (Nat → Int32)} (he : 4 ≤ e) {s : Nat} (hs : s < S) {j : Nat} (hj : j ≤ 1) (hq : ∀ J, ro B J → J 46 0 = 0 → Q (.inl (some (.int (if j = 0 then (findS B F n cd s).1 else (findS B F n cd s).2.1)))) J T) : ev (e + 1, X) 224 0 [some (.ref 46), some (.int (nI s)), some (.int (nI j))] [] I T Q := by
  have h8 := hC.F8
  have h6 := hC.S6
  have hI : ro B (m_up I 46 0 0) := h.trans (ro_thrown I 0)
  have h0 : (m_up I 46 0 0) 46 0 = 0 := rfl
  refine s_M_team_0 ?_
  unfold t_M_team_0 t_M_team_11 t_M_team_24 t_M_team_28 t_M_team_40
  refine qm_isStage (hC.2.1.ro hI) _ ?_
  rw [wI_t ((okW_lt (by have := (hC.2.1.ro hI).2.2.2; omega)).mpr ⟨s, hs, rfl⟩)]
  refine bq_f (by decide) ?_
  refine qm_bad0 rfl _ _ ?_
  refine bq_t rfl ?_
  refine q_in _ _ _ ?_
  rw [show wI (nI j) 0 1 = 1 from wI_n (b := 1) hj (by decide)]
  refine bq_f (by decide) ?_
  refine qm_bad0 rfl _ _ ?_
  refine bq_t rfl ?_
  refine qf_laysTeam hC hs he hI h0 (fun J hJ => ?_)
  have z := hq J hJ.1 hJ.2.1
  rw [← hJ.2.2.1, ← hJ.2.2.2.1] at z
  match j, hj with
  | 0, _ => exact bq_t rfl z
  | 1, _ => exact bq_f (by decide) z
theorem xq_team_b0 (hA : InvA B F S n cd) (hT : TG T) {a1 : Int32} {a2 : Int32} (c : ¬ ∃ f, f < S ∧ a1 = nI f) (hq : Q (.inr 0) (m_up B 0 14 (B 0 14 + 1)) (TX T)) : ev E 217 0 [some (.ref 0), some (.int (a1)), some (.int (a2))] [] B T Q := by
  refine s_X_team_0 ?_
  unfold t_X_team_0 t_X_team_24
  exact q_needS hA.1.1 hT _ (fun q => absurd q c) (fun _ => hq)
theorem mq_team_b0 (hm : mN I F S) {a1 : Int32} {a2 : Int32} (c : ¬ ∃ f, f < S ∧ a1 = nI f) (hq : ∀ v J, ro (m_up I 48 0 (I 48 0 + 1)) J → J 46 0 = 1 → Q (.inl (some (.int v))) J T) : ev E 224 0 [some (.ref 46), some (.int (a1)), some (.int (a2))] [] I T Q := by
  have hm2 : mN (m_up I 46 0 0) F S := hm
  refine s_M_team_0 ?_
  unfold t_M_team_0 t_M_team_11 t_M_team_24 t_M_team_28 t_M_team_40
  refine qm_isStage hm2 _ ?_
  rw [wI_f (fun q => c ((okW_lt (by have := hm.2.2.2; omega)).mp q))]
  refine bq_t rfl ?_
  refine qm_bad1 (j := 0) rfl (by decide) (by decide) ?_
  refine bq_f (by decide) ?_
  exact hq _ _ (ro_bad I _ _) rfl
theorem xq_team_b1 (hA : InvA B F S n cd) (hT : TG T) {s : Nat} (hs : s < S) {a2 : Int32} (c : ¬ okW a2 0 1) (hq : Q (.inr 1) (m_up B 0 15 (B 0 15 + 1)) (TX T)) : ev E 217 0 [some (.ref 0), some (.int (nI s)), some (.int (a2))] [] B T Q := by
  refine s_X_team_0 ?_
  unfold t_X_team_0 t_X_team_24
  refine q_needS hA.1.1 hT _ (fun _ => ?_) (fun q => absurd ⟨s, hs, rfl⟩ q)
  refine q_within _ _ _ ?_
  rw [wI_f c]
  exact q_need hT _ (fun q => absurd rfl q) (fun _ => hq)
theorem mq_team_b1 (hm : mN I F S) {s : Nat} (hs : s < S) {a2 : Int32} (c : ¬ okW a2 0 1) (hq : ∀ v J, ro (m_up I 48 1 (I 48 1 + 1)) J → J 46 0 = 2 → Q (.inl (some (.int v))) J T) : ev E 224 0 [some (.ref 46), some (.int (nI s)), some (.int (a2))] [] I T Q := by
  have hm2 : mN (m_up I 46 0 0) F S := hm
  refine s_M_team_0 ?_
  unfold t_M_team_0 t_M_team_11 t_M_team_24 t_M_team_28 t_M_team_40
  refine qm_isStage (hm2) _ ?_
  rw [wI_t ((okW_lt (by have := (hm2).2.2.2; omega)).mpr ⟨s, hs, rfl⟩)]
  refine bq_f (by decide) ?_
  refine qm_bad0 rfl _ _ ?_
  refine bq_t rfl ?_
  refine q_in _ _ _ ?_
  rw [wI_f c]
  refine bq_t rfl ?_
  refine qm_bad1 (j := 1) rfl (by decide) (by decide) ?_
  refine bq_f (by decide) ?_
  exact hq _ _ (ro_bad I _ _) rfl

theorem o_team {E : MEnv} (hE : E.1 = 16) : op_ok Inv E t_W_main_595 := by
  intro I T Q i m hI hT hm hi hL hn
  have hG := TI_g hT hm
  obtain ⟨e0, X⟩ := E
  have hE : e0 = 15 + 1 := hE
  subst hE
  obtain ⟨F, S, n, cd, hA⟩ := hI
  unfold t_W_main_595
  generalize X.2 (nI i + 1).toNatClampNeg = a1
  generalize X.2 (nI i + 2).toNatClampNeg = a2
  refine ⟨gsc 1 hi hL (by decide), gsc 2 hi hL (by decide), ?_⟩
  refine s_W_team_0 ?_
  unfold t_W_team_0 t_W_team_13 t_W_team_10
  by_cases c0 : ∃ f, f < S ∧ a1 = nI f
  · obtain ⟨s, hs, rfl⟩ := c0
    by_cases c1 : okW a2 0 1
    · obtain ⟨j, hj, rfl⟩ := okW_nat (k := 1) (by decide) c1
      refine xq_team hA hG (by decide) hs hj (fun J hJ hS => ?_)
      have hA2 := hA.rs hJ hS
      rw [← findS_rs hJ]
      exact ⟨gsc 1 hi hL (by decide), gsc 2 hi hL (by decide), mq_team hA2.1 (ro.refl J) (by decide) hs hj (fun K hK h0 => fin_ok h0 (fun _ => rfl) (hn K _ ⟨F, S, n, cd, hA2.ro hK⟩ (TI_s hT)))⟩
    · refine xq_team_b1 hA hG hs c1 ?_
      refine Or.inr ⟨rfl, ?_⟩
      exact ⟨gsc 1 hi hL (by decide), gsc 2 hi hL (by decide), mq_team_b1 (F := F) (S := S) (show mN (m_up I 0 15 (I 0 15 + 1)) F S from hA.1.2.1) hs c1 (fun v J hJ h0 => fin_ok h0 (fun q => absurd q (by decide)) (hn J _ (Inv_thr (x := 1) (by decide) ⟨F, S, n, cd, hA⟩ rfl (ro.refl _) hJ) (TI_x hT)))⟩
  · refine xq_team_b0 hA hG  c0 ?_
    refine Or.inl ⟨rfl, ?_⟩
    exact ⟨gsc 1 hi hL (by decide), gsc 2 hi hL (by decide), mq_team_b0 (F := F) (S := S) (show mN (m_up I 0 14 (I 0 14 + 1)) F S from hA.1.2.1)  c0 (fun v J hJ h0 => fin_ok h0 (fun q => absurd q (by decide)) (hn J _ (Inv_thr (x := 0) (by decide) ⟨F, S, n, cd, hA⟩ rfl (ro.refl _) hJ) (TI_x hT)))⟩
theorem xq_stands (hA : InvA B F S n cd) (hT : TG T) {e : Nat} {X : Nat × (Nat → Int32)} (he : 4 ≤ e) {s : Nat} (hs : s < S) {p : Nat} (hp : p ≤ 3) (hq : ∀ J, rs B J → Sr J F S n cd → Q (.inl (some (.int ((findS B F n cd s).2.2 p)))) J T) : ev (e + 1, X) 229 0 [some (.ref 0), some (.int (nI s)), some (.int (nI p))] [] B T Q := by
  have hC := hA.1
  have h8 := hC.F8
  have h6 := hC.S6
  refine s_X_stands_0 ?_
  unfold t_X_stands_0
  refine q_needS hA.1.1 hT _ (fun _ => ?_) (fun q => absurd ⟨s, hs, rfl⟩ q)
  refine q_isPlace _ ?_
  rw [show wI (nI p) 0 3 = 1 from wI_n (b := 3) hp (by decide)]
  refine q_need hT _ (fun _ => ?_) (fun q => absurd q (by decide))
  refine s_Search_whoFor_28_0 ?_
  unfold t_Search_whoFor_28_0 t_Search_whoFor_28_21 t_Search_whoFor_28_22
  refine qf_find hA hs he (fun J hJ hS h4 => ?_)
  refine q_within _ _ _ ?_
  rw [show wI (nI s) 0 5 = 1 from wI_n (b := 5) (by omega) (by decide)]
  refine bq_f (by decide) ?_
  refine q_isPlace _ ?_
  rw [show wI (nI p) 0 3 = 1 from wI_n (b := 3) hp (by decide)]
  refine bq_f (by decide) ?_
  have e4 : (nI s * 4 + nI p : Int32) = nI (4 * s + p) := by
    have : (nI s * 4 : Int32) = nI (s * 4) := pk_mul s 4
    rw [this, nI_add, Nat.mul_comm]
  rw [e4]
  refine ⟨gix (by omega) (by omega), ?_⟩
  rw [nI_clamp (by omega), h4.2.2 p (by omega)]
  exact hq J hJ hS
theorem mq_stands (hC : Core B F S n cd) (h : ro B I) {e : Nat} {X : Nat × (Nat → Int32)} (he : 4 ≤ e) {s : Nat} (hs : s < S) {p : Nat} (hp : p ≤ 3) (hq : ∀ J, ro B J → J 46 0 = 0 → Q (.inl (some (.int ((findS B F n cd s).2.2 p)))) J T) : ev (e + 1, X) 231 0 [some (.ref 46), some (.int (nI s)), some (.int (nI p))] [] I T Q := by
  have h8 := hC.F8
  have h6 := hC.S6
  have hI : ro B (m_up I 46 0 0) := h.trans (ro_thrown I 0)
  have h0 : (m_up I 46 0 0) 46 0 = 0 := rfl
  refine s_M_stands_0 ?_
  unfold t_M_stands_0 t_M_stands_11 t_M_stands_22 t_M_stands_26
  refine qm_isStage (hC.2.1.ro hI) _ ?_
  rw [wI_t ((okW_lt (by have := (hC.2.1.ro hI).2.2.2; omega)).mpr ⟨s, hs, rfl⟩)]
  refine bq_f (by decide) ?_
  refine qm_bad0 rfl _ _ ?_
  refine bq_t rfl ?_
  refine qm_isPlace _ ?_
  rw [show wI (nI p) 0 3 = 1 from wI_n (b := 3) hp (by decide)]
  refine bq_f (by decide) ?_
  refine qm_bad0 rfl _ _ ?_
  refine bq_t rfl ?_
  refine qf_laysTeam hC hs he hI h0 (fun J hJ => ?_)
  refine ⟨gix (by omega) (by omega), ?_⟩
  rw [nI_clamp (by omega), hJ.2.2.2.2 p (by omega)]
  exact hq J hJ.1 hJ.2.1
theorem xq_stands_b0 (hA : InvA B F S n cd) (hT : TG T) {a1 : Int32} {a2 : Int32} (c : ¬ ∃ f, f < S ∧ a1 = nI f) (hq : Q (.inr 0) (m_up B 0 14 (B 0 14 + 1)) (TX T)) : ev E 229 0 [some (.ref 0), some (.int (a1)), some (.int (a2))] [] B T Q := by
  refine s_X_stands_0 ?_
  unfold t_X_stands_0
  exact q_needS hA.1.1 hT _ (fun q => absurd q c) (fun _ => hq)
theorem mq_stands_b0 (hm : mN I F S) {a1 : Int32} {a2 : Int32} (c : ¬ ∃ f, f < S ∧ a1 = nI f) (hq : ∀ v J, ro (m_up I 48 0 (I 48 0 + 1)) J → J 46 0 = 1 → Q (.inl (some (.int v))) J T) : ev E 231 0 [some (.ref 46), some (.int (a1)), some (.int (a2))] [] I T Q := by
  have hm2 : mN (m_up I 46 0 0) F S := hm
  refine s_M_stands_0 ?_
  unfold t_M_stands_0 t_M_stands_11 t_M_stands_22 t_M_stands_26
  refine qm_isStage hm2 _ ?_
  rw [wI_f (fun q => c ((okW_lt (by have := hm.2.2.2; omega)).mp q))]
  refine bq_t rfl ?_
  refine qm_bad1 (j := 0) rfl (by decide) (by decide) ?_
  refine bq_f (by decide) ?_
  exact hq _ _ (ro_bad I _ _) rfl
theorem xq_stands_b1 (hA : InvA B F S n cd) (hT : TG T) {s : Nat} (hs : s < S) {a2 : Int32} (c : ¬ okW a2 0 3) (hq : Q (.inr 1) (m_up B 0 15 (B 0 15 + 1)) (TX T)) : ev E 229 0 [some (.ref 0), some (.int (nI s)), some (.int (a2))] [] B T Q := by
  refine s_X_stands_0 ?_
  unfold t_X_stands_0
  refine q_needS hA.1.1 hT _ (fun _ => ?_) (fun q => absurd ⟨s, hs, rfl⟩ q)
  refine q_isPlace _ ?_
  rw [wI_f c]
  exact q_need hT _ (fun q => absurd rfl q) (fun _ => hq)
theorem mq_stands_b1 (hm : mN I F S) {s : Nat} (hs : s < S) {a2 : Int32} (c : ¬ okW a2 0 3) (hq : ∀ v J, ro (m_up I 48 1 (I 48 1 + 1)) J → J 46 0 = 2 → Q (.inl (some (.int v))) J T) : ev E 231 0 [some (.ref 46), some (.int (nI s)), some (.int (a2))] [] I T Q := by
  have hm2 : mN (m_up I 46 0 0) F S := hm
  refine s_M_stands_0 ?_
  unfold t_M_stands_0 t_M_stands_11 t_M_stands_22 t_M_stands_26
  refine qm_isStage (hm2) _ ?_
  rw [wI_t ((okW_lt (by have := (hm2).2.2.2; omega)).mpr ⟨s, hs, rfl⟩)]
  refine bq_f (by decide) ?_
  refine qm_bad0 rfl _ _ ?_
  refine bq_t rfl ?_
  refine qm_isPlace _ ?_
  rw [wI_f c]
  refine bq_t rfl ?_
  refine qm_bad1 (j := 1) rfl (by decide) (by decide) ?_
  refine bq_f (by decide) ?_
  exact hq _ _ (ro_bad I _ _) rfl

theorem o_stands {E : MEnv} (hE : E.1 = 16) : op_ok Inv E t_W_main_640 := by
  intro I T Q i m hI hT hm hi hL hn
  have hG := TI_g hT hm
  obtain ⟨e0, X⟩ := E
  have hE : e0 = 15 + 1 := hE
  subst hE
  obtain ⟨F, S, n, cd, hA⟩ := hI
  unfold t_W_main_640
  generalize X.2 (nI i + 1).toNatClampNeg = a1
  generalize X.2 (nI i + 2).toNatClampNeg = a2
  refine ⟨gsc 1 hi hL (by decide), gsc 2 hi hL (by decide), ?_⟩
  refine s_W_stands_0 ?_
  unfold t_W_stands_0 t_W_stands_13 t_W_stands_10
  by_cases c0 : ∃ f, f < S ∧ a1 = nI f
  · obtain ⟨s, hs, rfl⟩ := c0
    by_cases c1 : okW a2 0 3
    · obtain ⟨p, hp, rfl⟩ := okW_nat (k := 3) (by decide) c1
      refine xq_stands hA hG (by decide) hs hp (fun J hJ hS => ?_)
      have hA2 := hA.rs hJ hS
      rw [← findS_rs hJ]
      exact ⟨gsc 1 hi hL (by decide), gsc 2 hi hL (by decide), mq_stands hA2.1 (ro.refl J) (by decide) hs hp (fun K hK h0 => fin_ok h0 (fun _ => rfl) (hn K _ ⟨F, S, n, cd, hA2.ro hK⟩ (TI_s hT)))⟩
    · refine xq_stands_b1 hA hG hs c1 ?_
      refine Or.inr ⟨rfl, ?_⟩
      exact ⟨gsc 1 hi hL (by decide), gsc 2 hi hL (by decide), mq_stands_b1 (F := F) (S := S) (show mN (m_up I 0 15 (I 0 15 + 1)) F S from hA.1.2.1) hs c1 (fun v J hJ h0 => fin_ok h0 (fun q => absurd q (by decide)) (hn J _ (Inv_thr (x := 1) (by decide) ⟨F, S, n, cd, hA⟩ rfl (ro.refl _) hJ) (TI_x hT)))⟩
  · refine xq_stands_b0 hA hG  c0 ?_
    refine Or.inl ⟨rfl, ?_⟩
    exact ⟨gsc 1 hi hL (by decide), gsc 2 hi hL (by decide), mq_stands_b0 (F := F) (S := S) (show mN (m_up I 0 14 (I 0 14 + 1)) F S from hA.1.2.1)  c0 (fun v J hJ h0 => fin_ok h0 (fun q => absurd q (by decide)) (hn J _ (Inv_thr (x := 0) (by decide) ⟨F, S, n, cd, hA⟩ rfl (ro.refl _) hJ) (TI_x hT)))⟩
end TEAM
