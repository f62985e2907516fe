/-! ===== work: the text ===== -/
/-- kind, first, second, where the next one is -/
abbrev SE : Type := Nat × Nat × Nat × Nat
abbrev ST : Type := Nat × (Nat → SE)
def uS (g : Nat → SE) (i : Nat) (v : SE) : Nat → SE := fun j => if j = i then v else g j
theorem uS_eq (g : Nat → SE) (i : Nat) (v : SE) : uS g i v i = v := if_pos rfl
theorem uS_ne {g : Nat → SE} {i j : Nat} {v : SE} (h : j ≠ i) : uS g i v j = g j := if_neg h
/-- one step more, done -/
def s1S (σ : ST) (i a b : Nat) : ST := (σ.1 + 1, uS σ.2 σ.1 (i, a, b, σ.1 + 1))
noncomputable def agnR (N : Nat) (w : Nat → Nat) (f : Nat → ST → RS ST) (p : Nat) (σ : ST) : RS ST := bndR (numR N w p 0 61) (fun a p1 => bndR (sgnR N w p1 91) (fun _ p2 => bndR (f p2 (σ.1 + 1, σ.2)) (fun σ' p3 => mapR (sgnR N w p3 93) (fun _ => (σ'.1, uS σ'.2 σ.1 (6, a, 0, σ'.1))))))
noncomputable def argR (N : Nat) (w : Nat → Nat) (F i p : Nat) (σ : ST) : RS ST := bndR (numR N w p 0 F) (fun a p1 => if i = 1 then .inr (s1S σ 1 a 0, p1) else mapR (numR N w p1 0 (if i = 0 then 4 else 10)) (fun b => s1S σ i a b))
noncomputable def stpR (N : Nat) (w : Nat → Nat) (F : Nat) (f : Nat → ST → RS ST) (g : Bool) (p : Nat) (σ : ST) : RS ST := match kx W5 (wd N w p) 0 with
  | none => .inl (1, bl N w p)
  | some i => if i = 6 then (if g = true then agnR N w f (le N w (bl N w p)) σ else .inl (3, bl N w p)) else if i < 3 then argR N w F i (le N w (bl N w p)) σ else .inr (s1S σ i 0 0, le N w (bl N w p))
def stopT (N : Nat) (w : Nat → Nat) (x p : Nat) : Prop := if x = 0 then bl N w p = N else (bl N w p < N ∧ w (bl N w p) = 93)
noncomputable def lstR (N : Nat) (w : Nat → Nat) (x : Nat) (U : Nat → ST → RS ST) : Nat → Nat → ST → RS ST
  | 0, p, σ => .inr (σ, bl N w p)
  | d + 1, p, σ => by classical exact if stopT N w x p then .inr (σ, bl N w p) else bndR (U (bl N w p) σ) (fun σ1 p1 => bndR (sgnR N w p1 59) (fun _ p2 => lstR N w x U d p2 σ1))
noncomputable def lstD (N : Nat) (w : Nat → Nat) (F : Nat) : Nat → Nat → ST → RS ST
  | 0, _, _ => .inl (0, 0)
  | n + 1, p, σ => lstR N w (6 - n) (stpR N w F (lstD N w F n) (decide (0 < n))) 31 p σ
section WPURE
variable {N : Nat} {w : Nat → Nat} {F : Nat}
theorem stp_n {f : Nat → ST → RS ST} {g : Bool} {p : Nat} {σ : ST} (h : kx W5 (wd N w p) 0 = none) : stpR N w F f g p σ = .inl (1, bl N w p) := by unfold stpR; rw [h]
theorem stp_a {f : Nat → ST → RS ST} {p : Nat} {σ : ST} (h : kx W5 (wd N w p) 0 = some 6) : stpR N w F f true p σ = agnR N w f (le N w (bl N w p)) σ := by unfold stpR; rw [h]; rfl
theorem stp_a3 {f : Nat → ST → RS ST} {p : Nat} {σ : ST} (h : kx W5 (wd N w p) 0 = some 6) : stpR N w F f false p σ = .inl (3, bl N w p) := by unfold stpR; rw [h]; rfl
theorem stp_r {f : Nat → ST → RS ST} {g : Bool} {p i : Nat} {σ : ST} (h : kx W5 (wd N w p) 0 = some i) (hi : i < 3) : stpR N w F f g p σ = argR N w F i (le N w (bl N w p)) σ := by
  unfold stpR; rw [h]; show (if i = 6 then _ else _) = _; rw [if_neg (by omega), if_pos hi]
theorem stp_p {f : Nat → ST → RS ST} {g : Bool} {p i : Nat} {σ : ST} (h : kx W5 (wd N w p) 0 = some i) (hi : 3 ≤ i) (h6 : i ≠ 6) : stpR N w F f g p σ = .inr (s1S σ i 0 0, le N w (bl N w p)) := by
  unfold stpR; rw [h]; show (if i = 6 then _ else _) = _; rw [if_neg h6, if_neg (by omega)]
theorem lst_t {x : Nat} {U : Nat → ST → RS ST} {d p : Nat} {σ : ST} (h : stopT N w x p) : lstR N w x U (d + 1) p σ = .inr (σ, bl N w p) := by rw [lstR, if_pos h]
theorem lst_f {x : Nat} {U : Nat → ST → RS ST} {d p : Nat} {σ : ST} (h : ¬ stopT N w x p) : lstR N w x U (d + 1) p σ = bndR (U (bl N w p) σ) (fun σ1 p1 => bndR (sgnR N w p1 59) (fun _ p2 => lstR N w x U d p2 σ1)) := by rw [lstR, if_neg h]
theorem kx5 {p i : Nat} (hp : p ≤ N) (h : kx W5 (wd N w p) 0 = some i) : i < 7 ∧ bl N w p + 3 ≤ le N w (bl N w p) ∧ (3 ≤ i → bl N w p + 4 ≤ le N w (bl N w p)) ∧ (i = 6 → bl N w p + 5 ≤ le N w (bl N w p)) := by
  have hb := bl_le (w := w) hp
  have hl := le_le (w := w) hb.2
  have h1 := (kx_lt W5 0 i h).2
  have e : W5.length = 7 := rfl
  have g := kx_get W5 0 i h
  have hw : (wd N w p).length = le N w (bl N w p) - bl N w p := by unfold wd; rw [rl_len]
  have tab : ∀ j : Fin 7, 3 ≤ ((W5[j.val]?).getD []).length ∧ (3 ≤ j.val → 4 ≤ ((W5[j.val]?).getD []).length) ∧ (j.val = 6 → 5 ≤ ((W5[j.val]?).getD []).length) := by decide
  have := tab ⟨i, by omega⟩
  have g2 : W5[i]? = some (wd N w p) := g
  simp only [g2, Option.getD_some, hw] at this
  refine ⟨by omega, by omega, fun z => ?_, fun z => ?_⟩
  · have := this.2.1 z; omega
  · have := this.2.2 z; omega
def gS (N : Nat) (f : Nat → ST → RS ST) : Prop := ∀ p σ σ' p', p ≤ N → 5 * σ.1 ≤ p → f p σ = .inr (σ', p') → 5 * σ'.1 ≤ p' ∧ p ≤ p' ∧ p' ≤ N ∧ σ.1 ≤ σ'.1 ∧ ∀ k, k < σ.1 → σ'.2 k = σ.2 k
def gT (N : Nat) (f : Nat → ST → RS ST) : Prop := ∀ p σ σ' p', p ≤ N → 5 * σ.1 ≤ p → f p σ = .inr (σ', p') → 5 * σ'.1 ≤ p' + 1 ∧ p < p' ∧ p' ≤ N ∧ σ.1 < σ'.1 ∧ ∀ k, k < σ.1 → σ'.2 k = σ.2 k
theorem gT_stp {f : Nat → ST → RS ST} {g : Bool} (hf : g = true → gS N f) : gT N (stpR N w F f g) := by
  intro p σ σ' p' hp hn h
  have hb := bl_le (w := w) hp
  have hl := le_le (w := w) hb.2
  cases e : kx W5 (wd N w p) 0 with
  | none => rw [stp_n e] at h; cases h
  | some i =>
    obtain ⟨i7, w3, w4, w5⟩ := kx5 hp e
    have s1 : ∀ a b k, k < σ.1 → (s1S σ i a b).2 k = σ.2 k := fun a b k hk => uS_ne (by omega)
    by_cases i6 : i = 6
    · subst i6
      cases g with
      | false => rw [stp_a3 e] at h; cases h
      | true =>
        rw [stp_a e] at h
        obtain ⟨a, p1, e1, h⟩ := bndR_i h
        obtain ⟨u, p2, e2, h⟩ := bndR_i h
        obtain ⟨σ1, p3, e3, h⟩ := bndR_i h
        obtain ⟨u2, e4, e5⟩ := mapR_i h
        have r1 := numR_pos hl.2 e1
        have r2 := sgnR_pos r1.2 e2
        obtain ⟨a1, a2, a3, a4, a5⟩ := hf rfl _ _ _ _ r2.2 (by show 5 * (σ.1 + 1) ≤ p2; have := w5 rfl; omega) e3
        have a4' : σ.1 + 1 ≤ σ1.1 := a4
        have r4 := sgnR_pos a3 e4
        subst e5
        refine ⟨by show 5 * σ1.1 ≤ _; omega, by omega, by omega, by show σ.1 < σ1.1; omega, fun k hk => ?_⟩
        show uS σ1.2 σ.1 _ k = _
        rw [uS_ne (by omega)]
        exact a5 k (by show k < σ.1 + 1; omega)
    · by_cases i3 : i < 3
      · rw [stp_r e i3] at h
        obtain ⟨a, p1, e1, h⟩ := bndR_i h
        have r1 := numR_pos hl.2 e1
        by_cases z : i = 1
        · rw [if_pos z] at h
          injection h with h
          injection h with h1 h2
          subst h1 h2
          exact ⟨by show 5 * (σ.1 + 1) ≤ _; omega, by omega, by omega, by show σ.1 < σ.1 + 1; omega, fun k hk => uS_ne (by omega)⟩
        · rw [if_neg z] at h
          obtain ⟨b, e2, e3⟩ := mapR_i h
          have r2 := numR_pos r1.2 e2
          subst e3
          exact ⟨by show 5 * (σ.1 + 1) ≤ _; omega, by omega, by omega, by show σ.1 < σ.1 + 1; omega, s1 a b⟩
      · rw [stp_p e (by omega) i6] at h
        injection h with h
        injection h with h1 h2
        subst h1 h2
        have := w4 (by omega)
        exact ⟨by show 5 * (σ.1 + 1) ≤ _; omega, by omega, by omega, by show σ.1 < σ.1 + 1; omega, s1 0 0⟩
theorem gS_lst {x : Nat} {U : Nat → ST → RS ST} (hU : gT N U) : ∀ d, gS N (lstR N w x U d)
  | 0 => by
    intro p σ σ' p' hp hn h
    have hb := bl_le (w := w) hp
    rw [lstR] at h
    injection h with h
    injection h with h1 h2
    subst h1 h2
    exact ⟨by omega, by omega, by omega, Nat.le_refl _, fun k _ => rfl⟩
  | d + 1 => by
    intro p σ σ' p' hp hn h
    have hb := bl_le (w := w) hp
    by_cases c : stopT N w x p
    · rw [lst_t c] at h
      injection h with h
      injection h with h1 h2
      subst h1 h2
      exact ⟨by omega, by omega, by omega, Nat.le_refl _, fun k _ => rfl⟩
    · rw [lst_f c] at h
      obtain ⟨σ1, p1, e1, h⟩ := bndR_i h
      obtain ⟨u, p2, e2, h⟩ := bndR_i h
      obtain ⟨a1, a2, a3, a4, a5⟩ := hU _ _ _ _ hb.2 (by omega) e1
      have r2 := sgnR_pos a3 e2
      obtain ⟨b1, b2, b3, b4, b5⟩ := gS_lst hU d _ _ _ _ r2.2 (by omega) h
      exact ⟨b1, by omega, b3, by omega, fun k hk => by rw [b5 k (by omega), a5 k hk]⟩
theorem gS_lstD : ∀ n, gS N (lstD N w F n)
  | 0 => by intro p σ σ' p' _ _ h; cases h
  | n + 1 => gS_lst (gT_stp (fun _ => gS_lstD n)) 31
end WPURE
/-! the class's reader -/
def fs (m : Nat) (I J : II) : Prop := FR [1, 23, 24, 25, 26, 27] I J ∧ (∀ j, j ≠ 5 → J 23 j = I 23 j) ∧ ∀ k, k < m → J 24 k = I 24 k ∧ J 25 k = I 25 k ∧ J 26 k = I 26 k ∧ J 27 k = I 27 k
theorem fs.refl (m : Nat) (I : II) : fs m I I := ⟨FR.refl _ _, fun _ _ => rfl, fun _ _ => ⟨rfl, rfl, rfl, rfl⟩⟩
theorem fs.trans {m n : Nat} {I J K : II} (hmn : m ≤ n) (h : fs m I J) (k : fs n J K) : fs m I K := ⟨h.1.trans k.1, fun j hj => (k.2.1 j hj).trans (h.2.1 j hj), fun j hj => by
  obtain ⟨a, b, c, d⟩ := h.2.2 j hj
  obtain ⟨a2, b2, c2, d2⟩ := k.2.2 j (by omega)
  exact ⟨a2.trans a, b2.trans b, c2.trans c, d2.trans d⟩⟩
theorem fs_1 {m : Nat} {I J : II} (h : FR [1] I J) : fs m I J := ⟨h.mono (by decide), fun j _ => by rw [h 23 (by decide)], fun k _ => by rw [h 24 (by decide), h 25 (by decide), h 26 (by decide), h 27 (by decide)]; exact ⟨rfl, rfl, rfl, rfl⟩⟩
theorem fs_up {m c j : Nat} {I : II} {v : Int32} (hc : 24 ≤ c ∧ c ≤ 27) (hj : m ≤ j) : fs m I (m_up I c j v) := by
  have e : ∀ d k, k < m → (m_up I c j v) d k = I d k := fun d k hk => by
    by_cases z : d = c
    · subst z; rw [m_up_at, if_neg (by omega)]
    · rw [m_up_ne z]
  refine ⟨FR.up (by simp; omega) _ _, fun k _ => by rw [m_up_ne (by omega)], fun k hk => ⟨e 24 k hk, e 25 k hk, e 26 k hk, e 27 k hk⟩⟩
theorem fs_n {m : Nat} {I : II} {v : Int32} : fs m I (m_up I 23 5 v) := ⟨FR.up (by decide) _ _, fun j hj => by rw [m_up_at, if_neg hj], fun k _ => ⟨rfl, rfl, rfl, rfl⟩⟩
def eC (J : II) (k : Nat) (e : SE) : Prop := J 24 k = nI e.1 ∧ J 25 k = nI e.2.1 ∧ J 26 k = nI e.2.2.1 ∧ J 27 k = nI e.2.2.2
theorem eC.of {m k : Nat} {J K : II} {e : SE} (h : eC J k e) (f : fs m J K) (hk : k < m) : eC K k e := by
  obtain ⟨a, b, c, d⟩ := f.2.2 k hk
  unfold eC
  rw [a, b, c, d]
  exact h
section WORKC
variable {E : MEnv} {I : II} {T : TT} {Q : QQ} {N F : Nat} {w : Nat → Nat}
/-- the contract of a reader of steps, by the class -/
def CS (N : Nat) (w : Nat → Nat) (F : Nat) (f : Nat → ST → RS ST) (P : II → TT → QQ → Prop) : Prop := ∀ (I : II) (T : TT) (Q : QQ) (p : Nat) (σ : ST), tC I N w p → 5 * σ.1 ≤ p → I 23 5 = nI σ.1 → I 23 4 = nI F → (∀ σ' p', f p σ = .inr (σ', p') → ∀ J, fs σ.1 I J → tC J N w p' → J 23 5 = nI σ'.1 → (∀ k, σ.1 ≤ k → k < σ'.1 → eC J k (σ'.2 k)) → Q (.inl none) J T) → (∀ k q, f p σ = .inl (k, q) → ∀ J, fs σ.1 I J → fC J N w k q → Q (.inl none) J T) → P I T Q
theorem q_rs_f {J : II} {k q : Nat} {x2 x3 : Int32} (f : fC J N w k q) (hq : Q (.inl none) J T) : t_Plan_readSteps_2 E J T Q x2 x3 := by
  unfold t_Plan_readSteps_2 t_Plan_readSteps_31
  exact ⟨fun _ => hq, fun _ => q_isFine_f f (bq_t rfl hq)⟩
theorem l_rs {U : Nat → ST → RS ST} {x : Nat} (hN : N ≤ 150) (hx : x ≤ 6) (hU : CS N w F U (fun I T Q => ev E 98 0 [some (.ref 23), some (.ref 1), some (.int (nI x)), none, none] [] I T Q)) (hg : gT N U) : ∀ (d x3 p : Nat) (σ : ST) (J : II), x3 + d = 31 → x3 ≤ σ.1 → tC J N w p → 5 * σ.1 ≤ p → J 23 5 = nI σ.1 → J 23 4 = nI F → (∀ σ' p', lstR N w x U d p σ = .inr (σ', p') → ∀ K, fs σ.1 J K → tC K N w p' → K 23 5 = nI σ'.1 → (∀ k, σ.1 ≤ k → k < σ'.1 → eC K k (σ'.2 k)) → Q (.inl none) K T) → (∀ k q, lstR N w x U d p σ = .inl (k, q) → ∀ K, fs σ.1 J K → fC K N w k q → Q (.inl none) K T) → t_Plan_readSteps_2 E J T Q (nI x) (nI x3)
  | 0, x3, p, σ, J, hd, hx3, t, h5, _, _, _, _ => absurd t.2.1 (by omega)
  | d + 1, x3, p, σ, J, hd, hx3, t, h5, hn, h4, h1, h0 => by
    have hp := t.2.1
    have hb := bl_le (w := w) hp
    have hw : bl N w p < N → w (bl N w p) < 256 := fun q => (t.1.2.2.2 _ q).1
    unfold t_Plan_readSteps_2
    refine bq_f (show ¬ (30 : Int32) < nI x3 from nI_nlt (a := 30) (b := x3) (by omega) (by omega)) ?_
    refine q_isFine_t t (bq_f (by decide) ?_)
    refine q_peekP t.1 t.2.1 t.2.2.1 ?_
    have tb := tC_at t hb.2
    have fb : FR [1] J (m_up J 1 3 (nI (bl N w p))) := FR.up (by decide) _ _
    have stp : stopT N w x p → Q (.inl none) (m_up J 1 3 (nI (bl N w p))) T := fun s => h1 σ _ (lst_t s) _ (fs_1 fb) tb hn (fun k a b => absurd a (by omega))
    have go : ¬ stopT N w x p → t_Plan_readSteps_22 E (m_up J 1 3 (nI (bl N w p))) T Q (nI x) (nI x3) := fun s => by
      rw [lst_f s] at h1 h0
      unfold t_Plan_readSteps_22
      refine hU _ _ _ (bl N w p) σ tb (by omega) hn h4 (fun σ1 p1 e1 J1 f1 t1 n1 c1 => ?_) (fun k q e1 J1 f1 g1 => ?_)
      · obtain ⟨a1, a2, a3, a4, a5⟩ := hg _ _ _ _ hb.2 (by omega) e1
        rw [bndR_r e1] at h1 h0
        refine q_sign_t (c := 59) (by omega) t1 (fun p2 e2 J2 f2 t2 => ?_) (fun k q e2 J2 f2 g2 => ?_)
        · rw [bndR_r e2] at h1 h0
          have r2 := sgnR_pos a3 e2
          have fJ2 : fs σ.1 J J2 := fs.trans (Nat.le_refl _) (fs.trans (Nat.le_refl _) (fs_1 fb) f1) (fs_1 f2)
          show ev E 97 2 [some (.ref 23), some (.ref 1), some (.int (nI x)), some (.int (nI x3 + 1)), none] [] J2 T Q
          rw [nI_1 x3]
          refine s_Plan_readSteps_2 (l_rs hN hx hU hg d (x3 + 1) p2 σ1 J2 (by omega) (by omega) t2 (by omega) (by rw [f2 23 (by decide)]; exact n1) (by rw [fJ2.2.1 4 (by decide)]; exact h4) (fun σ' p' e K fK tK nK cK => ?_) (fun k q e K fK gK => ?_))
          · refine h1 σ' p' e K (fs.trans (by omega) fJ2 fK) tK nK (fun k u v => ?_)
            by_cases z : k < σ1.1
            · obtain ⟨b1, b2, b3, b4, b5⟩ := gS_lst (w := w) (x := x) hg d _ _ _ _ r2.2 (by omega) e
              rw [b5 k z]
              exact ((c1 k u z).of (fs_1 (m := k + 1) f2) (by omega)).of fK z
            · exact cK k (by omega) v
          · exact h0 k q e K (fs.trans (by omega) fJ2 fK) gK
        · exact s_Plan_readSteps_2 (q_rs_f g2 (h0 k q (bndR_l e2) J2 (fs.trans (Nat.le_refl _) (fs.trans (Nat.le_refl _) (fs_1 fb) f1) (fs_1 f2)) g2))
      · refine q_sign_f _ g1 (fun J2 f2 g2 => ?_)
        exact s_Plan_readSteps_2 (q_rs_f g2 (h0 k q (bndR_l e1) J2 (fs.trans (Nat.le_refl _) (fs.trans (Nat.le_refl _) (fs_1 fb) f1) (fs_1 f2)) g2))
    by_cases x0 : x = 0
    · subst x0
      refine bq_t rfl ?_
      by_cases z : bl N w p = N
      · exact bq_t ((cv_m1 hb.2 hw).mpr z) (stp (by unfold stopT; rw [if_pos rfl]; exact z))
      · refine bq_f (fun y => z ((cv_m1 hb.2 hw).mp y)) ?_
        unfold t_Plan_readSteps_16
        exact bq_t (by decide) (go (by unfold stopT; rw [if_pos rfl]; exact z))
    · refine bq_f (fun z => x0 ((nI_eq (a := x) (b := 0) (by omega) (by omega)).mp z)) ?_
      unfold t_Plan_readSteps_16 t_Plan_readSteps_21
      refine bq_f (nI_ge (a := 0) (b := x) (by omega) (by omega)) ?_
      by_cases z : bl N w p < N ∧ w (bl N w p) = 93
      · exact bq_t ((cv_eq (c := 93) (by omega) hw).mpr z) (stp (by unfold stopT; rw [if_neg x0]; exact z))
      · exact bq_f (fun y => z ((cv_eq (c := 93) (by omega) hw).mp y)) (go (by unfold stopT; rw [if_neg x0]; exact z))
end WORKC
