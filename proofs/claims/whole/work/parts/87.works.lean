/-! ===== work: what is read is sound; a step done, by the class ===== -/
section WSOUND
variable {N F : Nat} {w : Nat → Nat}
def sL (N F : Nat) (f : Nat → ST → RS ST) (n : Nat) : Prop := ∀ p σ σ' p', p ≤ N → 5 * σ.1 ≤ p → f p σ = .inr (σ', p') → ∀ st : Nat → SE, (∀ k, σ.1 ≤ k → k < σ'.1 → st k = σ'.2 k) → wn F st n σ.1 σ'.1
def sT (N F : Nat) (f : Nat → ST → RS ST) (n : Nat) : Prop := ∀ p σ σ' p', p ≤ N → 5 * σ.1 ≤ p → f p σ = .inr (σ', p') → okE F (σ'.2 σ.1) ∧ (σ'.2 σ.1).2.2.2 = σ'.1 ∧ ((σ'.2 σ.1).1 = 6 → ∀ st : Nat → SE, (∀ k, σ.1 ≤ k → k < σ'.1 → st k = σ'.2 k) → wn F st n (σ.1 + 1) σ'.1)
theorem sT_stp {f : Nat → ST → RS ST} {g : Bool} {n : Nat} (hf : g = true → gS N f ∧ sL N F f n) : sT N F (stpR N w F f g) n := by
  intro p σ σ' p' hp hn h
  have hb := bl_le (w := w) hp
  have hl := le_le (w := w) hb.2
  cases e : kx W5 (wd N w p) 0 with
  | none => rw [stp_n e] at h; cases h
  | some i =>
    obtain ⟨i7, w3, w4, w5⟩ := kx5 hp e
    by_cases i6 : i = 6
    · subst i6
      cases g with
      | false => rw [stp_a3 e] at h; cases h
      | true =>
        rw [stp_a e] at h
        obtain ⟨a, p1, e1, h⟩ := bndR_i h
        obtain ⟨u, p2, e2, h⟩ := bndR_i h
        obtain ⟨σ1, p3, e3, h⟩ := bndR_i h
        obtain ⟨u2, e4, e5⟩ := mapR_i h
        have r1 := numR_pos hl.2 e1
        have ra := numR_in e1
        have r2 := sgnR_pos r1.2 e2
        have h5 : 5 * (σ.1 + 1) ≤ p2 := by have := w5 rfl; omega
        have q := (hf rfl).2 _ _ _ _ r2.2 h5 e3
        have q2 := (hf rfl).1 _ _ _ _ r2.2 h5 e3
        have a4 : σ.1 + 1 ≤ σ1.1 := q2.2.2.2.1
        subst e5
        have ee : (uS σ1.2 σ.1 (6, a, 0, σ1.1)) σ.1 = (6, a, 0, σ1.1) := uS_eq _ _ _
        show okE F ((uS σ1.2 σ.1 (6, a, 0, σ1.1)) σ.1) ∧ ((uS σ1.2 σ.1 (6, a, 0, σ1.1)) σ.1).2.2.2 = σ1.1 ∧ (((uS σ1.2 σ.1 (6, a, 0, σ1.1)) σ.1).1 = 6 → ∀ st : Nat → SE, (∀ k, σ.1 ≤ k → k < σ1.1 → st k = (uS σ1.2 σ.1 (6, a, 0, σ1.1)) k) → wn F st n (σ.1 + 1) σ1.1)
        rw [ee]
        refine ⟨⟨by show 6 ≤ 6; omega, fun z => absurd z (by show ¬ 6 ≤ 2; omega), fun z => absurd z (by show ¬ 6 = 0; omega), fun z => absurd z (by show ¬ 6 = 2; omega), fun _ => by show a ≤ 60; omega⟩, rfl, fun _ st hst => q st (fun k u v => ?_)⟩
        have u' : σ.1 + 1 ≤ k := u
        rw [hst k (by omega) v, uS_ne (by omega)]
    · have fin : ∀ a b, σ' = s1S σ i a b → okE F (i, a, b, σ.1 + 1) → okE F (σ'.2 σ.1) ∧ (σ'.2 σ.1).2.2.2 = σ'.1 ∧ ((σ'.2 σ.1).1 = 6 → ∀ st : Nat → SE, (∀ k, σ.1 ≤ k → k < σ'.1 → st k = σ'.2 k) → wn F st n (σ.1 + 1) σ'.1) := fun a b hs ho => by
        subst hs
        have ee : (s1S σ i a b).2 σ.1 = (i, a, b, σ.1 + 1) := uS_eq _ _ _
        rw [ee]
        exact ⟨ho, rfl, fun z => absurd z i6⟩
      by_cases i3 : i < 3
      · rw [stp_r e i3] at h
        obtain ⟨a, p1, e1, h⟩ := bndR_i h
        have ra := numR_in e1
        by_cases z : i = 1
        · rw [if_pos z] at h
          injection h with h
          injection h with h1 h2
          subst z
          exact fin a 0 h1.symm ⟨by show 1 ≤ 6; omega, fun _ => ra.2, fun z => absurd z (by show ¬ 1 = 0; omega), fun z => absurd z (by show ¬ 1 = 2; omega), fun z => absurd z (by show ¬ 1 = 6; omega)⟩
        · rw [if_neg z] at h
          obtain ⟨b, e2, e3⟩ := mapR_i h
          have rb := numR_in e2
          refine fin a b e3.symm ⟨by show i ≤ 6; omega, fun _ => ra.2, fun y => ?_, fun y => ?_, fun y => absurd y i6⟩
          · have y' : i = 0 := y
            rw [if_pos y'] at rb
            exact rb.2
          · have y' : i = 2 := y
            rw [if_neg (by omega)] at rb
            exact rb.2
      · rw [stp_p e (by omega) i6] at h
        injection h with h
        injection h with h1 h2
        exact fin 0 0 h1.symm ⟨by show i ≤ 6; omega, fun z => absurd z (by show ¬ i ≤ 2; omega), fun z => absurd z (by show ¬ i = 0; omega), fun z => absurd z (by show ¬ i = 2; omega), fun z => absurd z i6⟩
theorem sL_lst {x n : Nat} {U : Nat → ST → RS ST} (hg : gT N U) (hU : sT N F U n) : ∀ (d p : Nat) (σ σ' : ST) (p' : Nat), p ≤ N → 5 * σ.1 ≤ p → lstR N w x U d p σ = .inr (σ', p') → ∀ st : Nat → SE, (∀ k, σ.1 ≤ k → k < σ'.1 → st k = σ'.2 k) → wl F st (wn F st n) d σ.1 σ'.1
  | 0, p, σ, σ', p', hp, hn, h, st, hst => by
    rw [lstR] at h
    injection h with h
    injection h with h1 h2
    subst h1
    exact rfl
  | d + 1, p, σ, σ', p', hp, hn, h, st, hst => by
    have hb := bl_le (w := w) hp
    by_cases c : stopT N w x p
    · rw [lst_t c] at h
      injection h with h
      injection h with h1 h2
      subst h1
      exact Or.inl rfl
    · rw [lst_f c] at h
      obtain ⟨σ1, p1, e1, h⟩ := bndR_i h
      obtain ⟨u, p2, e2, h⟩ := bndR_i h
      obtain ⟨a1, a2, a3, a4, a5⟩ := hg _ _ _ _ hb.2 (by omega) e1
      obtain ⟨b1, b2, b3⟩ := hU _ _ _ _ hb.2 (by omega) e1
      have r2 := sgnR_pos a3 e2
      obtain ⟨c1, c2, c3, c4, c5⟩ := gS_lst (w := w) (x := x) hg d _ _ _ _ r2.2 (by omega) h
      have es : st σ.1 = σ1.2 σ.1 := by rw [hst σ.1 (Nat.le_refl _) (by omega), c5 σ.1 a4]
      have ih := sL_lst hg hU d p2 σ1 σ' p' r2.2 (by omega) h st (fun k u v => hst k (by omega) v)
      refine Or.inr ⟨by omega, by rw [es]; exact b1, by rw [es, b2]; omega, by rw [es, b2]; omega, fun z => ?_, by rw [es, b2]; exact ih⟩
      rw [es] at z ⊢
      rw [b2]
      exact b3 z st (fun k u v => by rw [hst k u (by omega), c5 k v])
theorem sL_lstD : ∀ n, sL N F (lstD N w F n) n
  | 0 => by intro p σ σ' p' _ _ h; cases h
  | n + 1 => by
    intro p σ σ' p' hp hn h st hst
    exact sL_lst (gT_stp (fun _ => gS_lstD n)) (sT_stp (fun _ => ⟨gS_lstD n, sL_lstD n⟩)) 31 p σ σ' p' hp hn h st hst
end WSOUND
/-- row, begun, done, refused -/
abbrev RW : Type := (Nat → Int32) × Nat × Nat × Nat
/-- a step, if it can be done -/
def dwR (B : II) (F S n : Nat) (cd : Nat → Nat × Int32) (e : SE) (r : Nat → Int32) : Option (Nat → Int32) := if e.1 = 0 then (if canP r F (B 6 e.2.1) e.2.1 (nI e.2.2.1) = 0 then none else some (upd r e.2.1 (nI e.2.2.1))) else if e.1 = 1 then (if r e.2.1 = -1 then none else some (upd r e.2.1 (-1))) else if e.1 = 2 then (if r (8 + e.2.1) = nI e.2.2.1 then none else some (upd r (8 + e.2.1) (nI e.2.2.1))) else if e.1 = 3 then (if canD r F S = 0 then none else some (drvR B F n cd r (r 25).toNatClampNeg)) else if e.1 = 4 then (if r 25 = 0 then none else some (upd r 25 0)) else (if 900 ≤ r 24 then none else some (restC (B 5) F r))
def stW (B : II) (F S n : Nat) (cd : Nat → Nat × Int32) (e : SE) (s : RW) : RW := match dwR B F S n cd e s.1 with
  | none => (s.1, s.2.1, s.2.2.1, s.2.2.2 + 1)
  | some r => (r, s.2.1, s.2.2.1 + 1, s.2.2.2)
def agF (f : RW → RW) : Nat → RW → RW
  | 0, s => s
  | m + 1, s => if 200 ≤ s.2.1 then s else agF f m (f s)
def lpF (D : SE → RW → RW) (st : Nat → SE) (inn : Nat → Nat → RW → RW) : Nat → Nat → Nat → RW → RW
  | 0, _, _, s => s
  | t + 1, i, j, s => if j ≤ i then s else if 200 ≤ s.2.1 then s else lpF D st inn t (st i).2.2.2 j (if (st i).1 = 6 then agF (inn (i + 1) (st i).2.2.2) (st i).2.1 (s.1, s.2.1 + 1, s.2.2) else D (st i) (s.1, s.2.1 + 1, s.2.2))
def rnD (D : SE → RW → RW) (st : Nat → SE) : Nat → Nat → Nat → RW → RW
  | 0, _, _, s => s
  | n + 1, i, j, s => lpF D st (rnD D st n) 31 i j s
theorem rowV.upd25 {r : Nat → Int32} {F S : Nat} (hF : F ≤ 8) (h : rowV r F S) : rowV (upd r 25 0) F S := (h.w.hi hF (by omega) 0).v ⟨0, by omega, upd_at _ _ _⟩
theorem dwR_V {B : II} {F S n : Nat} {cd : Nat → Nat × Int32} (hC : Core B F S n cd) {e : SE} (he : okE F e) {r r' : Nat → Int32} (hV : rowV r F S) (h : dwR B F S n cd e r = some r') : rowV r' F S := by
  have hF := hC.F8
  have hS := hC.S6
  obtain ⟨b, b1, b2⟩ := hV.2.2.2.2
  have k25 : ∀ {j : Nat} {v : Int32}, j ≠ 25 → ∃ b, b ≤ S ∧ (upd r j v) 25 = nI b := fun hj => ⟨b, b1, by rw [upd_ne (by omega)]; exact b2⟩
  unfold dwR at h
  by_cases c0 : e.1 = 0
  · rw [if_pos c0] at h
    have ha := he.2.1 (by omega)
    have hb := he.2.2.1 c0
    by_cases z : canP r F (B 6 e.2.1) e.2.1 (nI e.2.2.1) = 0
    · rw [if_pos z] at h; cases h
    · rw [if_neg z] at h
      injection h with h
      subst h
      exact (hV.w.put hF (by omega) hb (canP_who hF z).2).v (k25 (by omega))
  · rw [if_neg c0] at h
    by_cases c1 : e.1 = 1
    · rw [if_pos c1] at h
      have ha := he.2.1 (by omega)
      by_cases z : r e.2.1 = -1
      · rw [if_pos z] at h; cases h
      · rw [if_neg z] at h
        injection h with h
        subst h
        exact (hV.w.out hF (by omega)).v (k25 (by omega))
    · rw [if_neg c1] at h
      by_cases c2 : e.1 = 2
      · rw [if_pos c2] at h
        have ha := he.2.1 (by omega)
        have hb := he.2.2.2.1 c2
        by_cases z : r (8 + e.2.1) = nI e.2.2.1
        · rw [if_pos z] at h; cases h
        · rw [if_neg z] at h
          injection h with h
          subst h
          exact (hV.w.tight hF (by omega) ⟨_, by omega, rfl⟩).v (k25 (by omega))
      · rw [if_neg c2] at h
        by_cases c3 : e.1 = 3
        · rw [if_pos c3] at h
          by_cases z : canD r F S = 0
          · rw [if_pos z] at h; cases h
          · rw [if_neg z] at h
            injection h with h
            subst h
            obtain ⟨-, s, s1, s2⟩ := canD_lt hS hV.2.2.2.2 z
            rw [s2, nI_clamp (by omega)]
            exact drv_V hC s1 hV.w s2
        · rw [if_neg c3] at h
          by_cases c4 : e.1 = 4
          · rw [if_pos c4] at h
            by_cases z : r 25 = 0
            · rw [if_pos z] at h; cases h
            · rw [if_neg z] at h
              injection h with h
              subst h
              exact hV.upd25 hF
          · rw [if_neg c4] at h
            by_cases z : 900 ≤ r 24
            · rw [if_pos z] at h; cases h
            · rw [if_neg z] at h
              injection h with h
              subst h
              exact (W_rest hF hV.w _).v ⟨b, b1, by rw [hi_rest (by omega) hF]; exact b2⟩
