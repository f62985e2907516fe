/-! ===== rows on trial ===== -/
theorem rep_inv {α : Type} {P : α → Prop} {s : Nat → α → α} : ∀ (d f : Nat) (a : α), (∀ g b, f ≤ g → g < f + d → P b → P (s g b)) → P a → P (rep s d f a)
  | 0, _, _, _, h => h
  | d + 1, f, a, hs, h => by
    rw [rep]
    exact rep_inv d (f + 1) _ (fun g b h1 h2 => hs g b (by omega) (by omega)) (hs f a (Nat.le_refl _) (by omega) h)
/-- what holds of every row, but for how far it has gone -/
def rowW (r : Nat → Int32) (F : Nat) : Prop := plc r F ∧ (∀ f g, f < F → g < F → f ≠ g → r f ≠ -1 → r f ≠ r g) ∧ (∀ f, f < F → ∃ t, t ≤ 9 ∧ r (8 + f) = nI t) ∧ ∀ f, f < F → ∃ t, t ≤ 999 ∧ r (16 + f) = nI t
theorem rowV.w {r : Nat → Int32} {F S : Nat} (h : rowV r F S) : rowW r F := ⟨h.1, h.2.1, h.2.2.1, h.2.2.2.1⟩
theorem rowW.v {r : Nat → Int32} {F S : Nat} (h : rowW r F) (hb : ∃ b, b ≤ S ∧ r 25 = nI b) : rowV r F S := ⟨h.1, h.2.1, h.2.2.1, h.2.2.2, hb⟩
theorem rowW.congr {r q : Nat → Int32} {F : Nat} (hF : F ≤ 8) (h : rowW r F) (e : ∀ j, j < 24 → q j = r j) : rowW q F := by
  refine ⟨fun f hf => ?_, fun f g hf hg => ?_, fun f hf => ?_, fun f hf => ?_⟩
  · rw [e f (by omega)]; exact h.1 f hf
  · rw [e f (by omega), e g (by omega)]; exact h.2.1 f g hf hg
  · rw [e (8 + f) (by omega)]; exact h.2.2.1 f hf
  · rw [e (16 + f) (by omega)]; exact h.2.2.2 f hf
theorem rowW.hi {r : Nat → Int32} {F : Nat} (hF : F ≤ 8) (h : rowW r F) {j : Nat} (hj : 24 ≤ j) (x : Int32) : rowW (upd r j x) F := h.congr hF (fun i hi => upd_ne (by omega))
theorem rowW.tired {r : Nat → Int32} {F : Nat} (hF : F ≤ 8) (h : rowW r F) (i : Nat) {x : Int32} (hx : ∃ t, t ≤ 999 ∧ x = nI t) : rowW (upd r (16 + i) x) F := by
  refine ⟨fun f hf => ?_, fun f g hf hg => ?_, fun f hf => ?_, fun f hf => ?_⟩
  · rw [upd_ne (by omega)]; exact h.1 f hf
  · rw [upd_ne (by omega), upd_ne (by omega)]; exact h.2.1 f g hf hg
  · rw [upd_ne (by omega)]; exact h.2.2.1 f hf
  · by_cases e : f = i
    · subst e; rw [upd_at]; exact hx
    · rw [upd_ne (by omega)]; exact h.2.2.2 f hf
theorem rowW.tight {r : Nat → Int32} {F : Nat} (hF : F ≤ 8) (h : rowW r F) {i : Nat} (hi : i < 8) {x : Int32} (hx : ∃ t, t ≤ 9 ∧ x = nI t) : rowW (upd r (8 + i) x) F := by
  refine ⟨fun f hf => ?_, fun f g hf hg => ?_, fun f hf => ?_, fun f hf => ?_⟩
  · rw [upd_ne (by omega)]; exact h.1 f hf
  · rw [upd_ne (by omega), upd_ne (by omega)]; exact h.2.1 f g hf hg
  · by_cases e : f = i
    · subst e; rw [upd_at]; exact hx
    · rw [upd_ne (by omega)]; exact h.2.2.1 f hf
  · rw [upd_ne (by omega)]; exact h.2.2.2 f hf
theorem rowW.out {r : Nat → Int32} {F : Nat} (hF : F ≤ 8) (h : rowW r F) {i : Nat} (hi : i < 8) : rowW (upd r i (-1)) F := by
  refine ⟨fun f hf => ?_, fun f g hf hg hn hq => ?_, fun f hf => ?_, fun f hf => ?_⟩
  · by_cases e : f = i
    · subst e; rw [upd_at]; exact Or.inl rfl
    · rw [upd_ne e]; exact h.1 f hf
  · by_cases e : f = i
    · subst e; exact absurd (upd_at _ _ _) hq
    · rw [upd_ne e] at hq ⊢
      by_cases e2 : g = i
      · subst e2; rw [upd_at]; exact hq
      · rw [upd_ne e2]; exact h.2.1 f g hf hg hn hq
  · rw [upd_ne (by omega)]; exact h.2.2.1 f hf
  · rw [upd_ne (by omega)]; exact h.2.2.2 f hf
theorem rowW.put {r : Nat → Int32} {F : Nat} (hF : F ≤ 8) (h : rowW r F) {i p : Nat} (hi : i < 8) (hp : p < 4) (hn : ∀ g, g < F → r g ≠ nI p) : rowW (upd r i (nI p)) F := by
  refine ⟨fun f hf => ?_, fun f g hf hg hne => ?_, fun f hf => ?_, fun f hf => ?_⟩
  · by_cases e : f = i
    · subst e; rw [upd_at]; exact Or.inr ⟨p, hp, rfl⟩
    · rw [upd_ne e]; exact h.1 f hf
  · by_cases e : f = i
    · subst e
      rw [upd_at, upd_ne (fun z => hne z.symm)]
      exact fun _ z => hn g hg z.symm
    · rw [upd_ne e]
      intro hm
      by_cases e2 : g = i
      · subst e2; rw [upd_at]; exact hn f hf
      · rw [upd_ne e2]; exact h.2.1 f g hf hg hne hm
  · rw [upd_ne (by omega)]; exact h.2.2.1 f hf
  · rw [upd_ne (by omega)]; exact h.2.2.2 f hf
theorem t999_nat (x : Int32) : ∃ t, t ≤ 999 ∧ t999 x = nI t := by
  have e0 : (0 : Int32).toInt = 0 := rfl
  have e9 : (999 : Int32).toInt = 999 := rfl
  unfold t999
  by_cases h1 : x < 999
  · simp only [if_pos h1]
    by_cases h2 : 0 < x
    · simp only [if_pos h2]
      obtain ⟨j, hj, e⟩ := nI_of (x := x) (by rw [fa_lt, e0]; rw [fa_lt, e0] at h2; omega)
      subst e
      rw [fa_lt, e9, nI_toInt hj] at h1
      exact ⟨j, by omega, rfl⟩
    · simp only [if_neg h2]; exact ⟨0, by omega, rfl⟩
  · simp only [if_neg h1]
    rw [if_pos (by decide)]
    exact ⟨999, by omega, rfl⟩
theorem p0_nat {t : Nat} (h : t ≤ 9) : ∃ u, u ≤ 9 ∧ p0 (nI t - 3) = nI u := by
  have := mx0_sub (a := t) (b := 3) (by omega) (by omega)
  exact ⟨t - 3, by omega, by rw [p0_mx]; exact this⟩
theorem W_tireC {r : Nat → Int32} {F : Nat} (hF : F ≤ 8) (h : rowW r F) (m : Int32) (i : Nat) : rowW (tireC m i r) F := by
  unfold tireC
  split
  · exact h
  · exact h.tired hF i (t999_nat _)
theorem W_spillC {r : Nat → Int32} {F : Nat} (hF : F ≤ 8) (h : rowW r F) {i : Nat} (hi : i < F) : rowW (spillC i r) F := by
  obtain ⟨t, ht, et⟩ := h.2.2.1 i hi
  have hu : ∃ u, u ≤ 9 ∧ p0 (r (8 + i) - 3) = nI u := by rw [et]; exact p0_nat ht
  unfold spillC
  split
  · exact h
  · split
    · exact (h.tight hF (by omega) hu).out hF (by omega)
    · exact h.tight hF (by omega) hu
theorem W_rsC {r : Nat → Int32} {F : Nat} (hF : F ≤ 8) (h : rowW r F) (calm : Nat → Int32) (i : Nat) : rowW (rsC calm i r) F := h.tired hF i (t999_nat _)
theorem W_rest {r : Nat → Int32} {F : Nat} (hF : F ≤ 8) (h : rowW r F) (calm : Nat → Int32) : rowW (restC calm F r) F := by
  unfold restC
  exact (rep_inv (P := fun r => rowW r F) F 0 r (fun g b _ _ hb => W_rsC hF hb calm g) h).hi hF (by omega) _
theorem W_drive {r : Nat → Int32} {F : Nat} (hF : F ≤ 8) (h : rowW r F) (len turn bears st tilt : Int32) : rowW (driveC len turn bears st tilt F r) F := by
  have ht : ∀ m, rowW (rep (tireC m) F 0 r) F := fun m => rep_inv (P := fun r => rowW r F) F 0 r (fun g b _ _ hb => W_tireC hF hb m g) h
  unfold driveC tally
  refine rowW.hi hF ?_ (by omega) _
  split
  · exact ht 2
  · split
    · exact rep_inv (P := fun r => rowW r F) F 0 _ (fun g b _ hg hb => W_spillC hF hb (by omega)) (ht 5)
    · unfold thruC
      exact (ht _).hi hF (by omega) _
/-- what is above the feelings is kept -/
theorem hi_tire {m : Int32} {j : Nat} (hj : 24 ≤ j) (d f : Nat) (hf : f + d ≤ 8) (r : Nat → Int32) : rep (tireC m) d f r j = r j :=
  rep_inv (P := fun q => q j = r j) d f r (fun g b _ hg hb => by
    show tireC m g b j = r j
    unfold tireC
    split
    · exact hb
    · rw [upd_ne (by omega)]; exact hb) rfl
theorem hi_spill {j : Nat} (hj : 24 ≤ j) (d f : Nat) (hf : f + d ≤ 8) (r : Nat → Int32) : rep spillC d f r j = r j := spl_hi (by omega) d f r hf
theorem hi_rest {calm : Nat → Int32} {j : Nat} (hj : 25 ≤ j) {F : Nat} (hF : F ≤ 8) (r : Nat → Int32) : restC calm F r j = r j := by
  unfold restC
  rw [upd_ne (by omega)]
  exact rep_inv (P := fun q => q j = r j) F 0 r (fun g b _ hg hb => by
    show rsC calm g b j = r j
    unfold rsC
    rw [upd_ne (by omega)]; exact hb) rfl
theorem drive_25 {F : Nat} (hF : F ≤ 8) (len turn bears st tilt : Int32) (r : Nat → Int32) : driveC len turn bears st tilt F r 25 = if outN len turn bears st tilt = 2 then r 25 + 1 else r 25 := by
  have hk := outN_lt len turn bears st tilt
  unfold driveC
  generalize outN len turn bears st tilt = k at hk ⊢
  unfold tally
  rw [upd_ne (by omega)]
  match k, hk with
  | 0, _ => rw [if_pos rfl, if_neg (by decide)]; exact hi_tire (by omega) F 0 (by omega) r
  | 1, _ => rw [if_neg (by decide), if_pos rfl, if_neg (by decide), hi_spill (by omega) F 0 (by omega)]; exact hi_tire (by omega) F 0 (by omega) r
  | 2, _ => rw [if_neg (by decide), if_neg (by decide), if_pos rfl]; unfold thruC; rw [upd_at, hi_tire (by omega) F 0 (by omega) r]
/-- FORCES of a row -/
def foR (B : II) (n : Nat) (cd : Nat → Nat × Int32) (r : Nat → Int32) (z : Int32) (f : Nat) : Int32 := lawF n cd (vf (B 4 f) (B 5 f) (r (8 + f)) (r (16 + f)) (r f) (r 25) z (r 24))
def sidesR (B : II) (F n : Nat) (cd : Nat → Nat × Int32) (r : Nat → Int32) : Int32 × Int32 := sides r (foR B n cd r (ones (bits r F))) F
def stR (B : II) (F n : Nat) (cd : Nat → Nat × Int32) (r : Nat → Int32) : Int32 := (sidesR B F n cd r).1 + (sidesR B F n cd r).2
def tlR (B : II) (F n : Nat) (cd : Nat → Nat × Int32) (r : Nat → Int32) : Int32 := ab ((sidesR B F n cd r).1 - (sidesR B F n cd r).2)
def outR (B : II) (F n : Nat) (cd : Nat → Nat × Int32) (r : Nat → Int32) (s : Nat) : Nat := outN (B 7 s) (B 8 s) (B 3 7) (stR B F n cd r) (tlR B F n cd r)
def drvR (B : II) (F n : Nat) (cd : Nat → Nat × Int32) (r : Nat → Int32) (s : Nat) : Nat → Int32 := driveC (B 7 s) (B 8 s) (B 3 7) (stR B F n cd r) (tlR B F n cd r) F r
theorem sidesR_congr {B : II} {F n : Nat} {cd : Nat → Nat × Int32} {r q : Nat → Int32} (hF : F ≤ 8) (h : ∀ j, j < 26 → q j = r j) : sidesR B F n cd q = sidesR B F n cd r := by
  unfold sidesR sides
  rw [bits_congr (fun f hf => h f (by omega))]
  refine rep_congr F 0 _ (fun f _ hf b => ?_)
  unfold sd foR
  rw [h f (by omega), h (8 + f) (by omega), h (16 + f) (by omega), h 24 (by omega), h 25 (by omega)]
theorem canD_congr {F S : Nat} {r q : Nat → Int32} (hF : F ≤ 8) (h : ∀ j, j < 26 → q j = r j) : canD q F S = canD r F S := by
  unfold canD
  rw [bits_congr (fun f hf => h f (by omega)), h 25 (by omega)]
theorem canP_congr {F : Nat} {r q : Nat → Int32} (hF : F ≤ 8) (h : ∀ j, j < 26 → q j = r j) (foes : Int32) {f : Nat} (hf : f < F) (p : Int32) : canP q F foes f p = canP r F foes f p := by
  unfold canP
  rw [bits_congr (fun f hf => h f (by omega)), h f (by omega), whoAt_congr p F 0 (fun g _ hg => h g (by omega))]
theorem canD_lt {F S : Nat} {r : Nat → Int32} (hS : S ≤ 6) (hb : ∃ b, b ≤ S ∧ r 25 = nI b) (h : canD r F S ≠ 0) : bits r F ≠ 0 ∧ ∃ b, b < S ∧ r 25 = nI b := by
  unfold canD at h
  by_cases c : bits r F = 0
  · rw [if_pos c] at h; exact absurd rfl h
  · rw [if_neg c] at h
    obtain ⟨b, hb1, hb2⟩ := hb
    by_cases c2 : nI S ≤ r 25
    · rw [if_pos c2] at h; exact absurd rfl h
    · refine ⟨c, b, ?_, hb2⟩
      rw [hb2, nI_leI (by omega) (by omega)] at c2
      omega
section TRIAL
variable {E : MEnv} {B I : II} {T : TT} {Q : QQ} {F S n : Nat} {cd : Nat → Nat × Int32} {r q : Nat → Int32}
theorem out_pos (hC : Core B F S n cd) {s : Nat} (hs : s < S) {st tilt : Int32} (h : outN (B 7 s) (B 8 s) (B 3 7) st tilt = 2) : ∃ k, 0 < k ∧ k < 2 ^ 31 ∧ st = nI k := by
  obtain ⟨-, -, ⟨l, l1, l2, el⟩, -⟩ := hC.st hs
  unfold outN at h
  have e3 : (nI l / 3 + 1 : Int32) = nI (l / 3 + 1) := by
    have : nI l / 3 = nI (l / 3) := pk_div (d := 3) (by omega) (by omega) (by omega)
    rw [this, nI_1]
  by_cases c : B 7 s / 3 + 1 ≤ st
  · rw [el, e3, fa_le, nI_toInt (by omega)] at c
    obtain ⟨k, hk, ek⟩ := nI_of (x := st) (by rw [fa_lt]; have : (0 : Int32).toInt = 0 := rfl; omega)
    subst ek
    rw [nI_toInt hk] at c
    exact ⟨k, by omega, hk, rfl⟩
  · rw [if_neg c] at h; exact absurd h (by decide)
theorem more_nat (hC : Core B F S n cd) {s : Nat} (hs : s < S) (st tilt : Int32) : ∃ m, m ≤ 64 ∧ moreM (B 7 s) (B 8 s) st (outN (B 7 s) (B 8 s) (B 3 7) st tilt) = nI m := by
  obtain ⟨-, -, ⟨l, l1, l2, el⟩, t, ht, et⟩ := hC.st hs
  have hk := outN_lt (B 7 s) (B 8 s) (B 3 7) st tilt
  have hp : outN (B 7 s) (B 8 s) (B 3 7) st tilt = 2 → _ := out_pos hC hs
  generalize outN (B 7 s) (B 8 s) (B 3 7) st tilt = k at hk hp ⊢
  unfold moreM
  match k, hk with
  | 0, _ => exact ⟨2, by omega, rfl⟩
  | 1, _ => exact ⟨5, by omega, rfl⟩
  | 2, _ =>
    obtain ⟨k, k1, k2, rfl⟩ := hp rfl
    have hd : l / k ≤ l := Nat.div_le_self l k
    have h3 : nI t / 3 = nI (t / 3) := pk_div (d := 3) (by omega) (by omega) (by omega)
    rw [if_neg (by decide), if_neg (by decide), el, et, pk_div (by omega) k1 k2, h3, nI_1, nI_add]
    exact ⟨l / k + 1 + t / 3, by omega, rfl⟩
/-- a stage driven by both, from rows alike -/
theorem drv_alike (hC : Core B F S n cd) {s : Nat} (hs : s < S) (hW : rowW r F) (hR : rowR r q) : rowR (drvR B F n cd r s) (driveM (B 7 s) (B 8 s) (B 3 7) (stR B F n cd r) (tlR B F n cd r) F q) := by
  refine drive_alike hC.F8 hR (fun h => ?_) (fun g hg => ?_)
  · obtain ⟨k, k1, k2, e⟩ := out_pos hC hs h
    rw [e]
    exact nI_nle k1 k2
  · obtain ⟨m, hm, em⟩ := more_nat hC hs (stR B F n cd r) (tlR B F n cd r)
    obtain ⟨t, ht, et⟩ := hW.2.2.2 g hg
    rw [em, et, nI_add]
    exact nI_pos' (by omega)
/-! the class's trial -/
theorem sidesC_30_R (h : ro B I) (hr : I 31 = r) : sidesC_30 I F n cd = sidesR B F n cd r := by
  unfold sidesC_30 sidesR foC foR
  rw [hr, h.cell (c := 4) (by decide), h.cell (c := 5) (by decide)]
theorem qt_copy (h : ro B I) (hq : ∀ J, ro B J → (∀ j, j < 29 → J 31 j = B 29 j) → Q (.inl none) J T) : ev E 212 0 [some (.ref 30), some (.ref 28)] [] I T Q := by
  refine p_copyFrom ?_
  refine hq _ (h.trans (ro_row I (by decide) _)) (fun j hj => ?_)
  show va_cpy (I 29) (I 31) 0 0 29 j = _
  rw [cpy_in hj, h.cell (c := 29) (by decide)]
theorem qt_canDrive (hC : Core B F S n cd) (h : ro B I) (hr : I 31 = r) (hq : Q (.inl (some (.int (canD r F S)))) I T) : ev E 114 0 [some (.ref 30)] [] I T Q := by
  refine p_canDrive_30 (hC.1.ro h) ?_
  rw [hr]; exact hq
theorem qt_behind (hr : I 31 = r) (hq : Q (.inl (some (.int (r 25)))) I T) : ev E 115 0 [some (.ref 30)] [] I T Q := by
  refine p_behind_30 ?_
  rw [hr]; exact hq
theorem qt_bits (hC : Core B F S n cd) (h : ro B I) (hr : I 31 = r) (hq : Q (.inl (some (.int (bits r F)))) I T) : ev E 112 0 [some (.ref 30), none, none] [] I T Q := by
  refine p_teamBits_30 (hC.1.ro h) ?_
  rw [hr]; exact hq
theorem qt_tired (hC : Core B F S n cd) (h : ro B I) (hr : I 31 = r) {f : Nat} (hf : f < F) (hq : Q (.inl (some (.int (r (16 + f))))) I T) : ev E 127 0 [some (.ref 30), some (.int (nI f))] [] I T Q := by
  have h8 := hC.F8
  refine p_tiredOf_30 (hC.1.ro h) (by omega) ?_
  rw [if_pos hf, hr]; exact hq
theorem qt_has (hC : Core B F S n cd) (h : ro B I) (hr : I 31 = r) {f : Nat} (hf : f < F) (hq : Q (.inl (some (.int (if r f = -1 then 0 else 1)))) I T) : ev E 108 0 [some (.ref 30), some (.int (nI f))] [] I T Q := by
  have h8 := hC.F8
  refine p_hasPlace_30 (hC.1.ro h) (by omega) ?_
  rw [hr]
  by_cases c : r f = -1
  · rw [if_neg (fun z => z.2 c)]
    rw [if_pos c] at hq
    exact hq
  · rw [if_pos ⟨hf, c⟩]
    rw [if_neg c] at hq
    exact hq
theorem qt_canPut (hC : Core B F S n cd) (h : ro B I) (hr : I 31 = r) {f : Nat} (hf : f < F) (p : Int32) (hq : Q (.inl (some (.int (canP r F (B 6 f) f p)))) I T) : ev E 106 0 [some (.ref 30), some (.int (nI f)), some (.int p)] [] I T Q := by
  refine p_canPut_30 (hC.1.ro h) hf p ?_
  rw [hr, h.cell (c := 6) (by decide)]; exact hq
theorem qt_setPlace (hC : Core B F S n cd) (h : ro B I) (hr : I 31 = r) {f : Nat} (hf : f < F) (v : Int32) (hq : ∀ J, ro B J → J 31 = upd r f v → Q (.inl none) J T) : ev E 117 0 [some (.ref 30), some (.int (nI f)), some (.int v)] [] I T Q := by
  refine p_setPlace_30 (hC.1.ro h) hf v ?_
  rw [hr]
  exact hq _ (h.trans (ro_row I (by decide) _)) rfl
theorem qt_takeOut (hC : Core B F S n cd) (h : ro B I) (hr : I 31 = r) {f : Nat} (hf : f < F) (hq : ∀ J, ro B J → J 31 = upd r f (-1) → Q (.inl none) J T) : ev E 118 0 [some (.ref 30), some (.int (nI f))] [] I T Q := by
  refine p_takeOut_30 (hC.1.ro h) hf ?_
  rw [hr]
  exact hq _ (h.trans (ro_row I (by decide) _)) rfl
theorem qt_tilt (hC : Core B F S n cd) (h : ro B I) (hr : I 31 = r) (hq : ∀ J, ro B J → J 31 = r → Q (.inl (some (.int (tlR B F n cd r)))) J T) : ev E 183 0 [some (.ref 30)] [] I T Q := by
  refine p_tiltNow_30 (hC.1.ro h) (hC.lr.ro h) (fun J hJ => ?_)
  rw [sidesC_30_R h hr]
  exact hq J (h.trans (hJ.ro sub_scc4)) (by rw [hJ 31 (by decide)]; exact hr)
theorem qt_out (hC : Core B F S n cd) (h : ro B I) (hr : I 31 = r) {s : Nat} (hs : s < S) (hq : ∀ J, ro B J → J 31 = r → Q (.inl (some (.int (nI (outR B F n cd r s))))) J T) : ev E 209 0 [some (.ref 30), some (.int (nI s))] [] I T Q := by
  refine p_outcome_30 (hC.1.ro h) (hC.lr.ro h) hs (fun J hJ => ?_)
  rw [sidesC_30_R h hr, h.cell (c := 7) (by decide), h.cell (c := 8) (by decide), h.cell (c := 3) (by decide), outc_N]
  exact hq J (h.trans (hJ.ro sub_scc4)) (by rw [hJ 31 (by decide)]; exact hr)
theorem qt_drive (hC : Core B F S n cd) (h : ro B I) (hr : I 31 = r) {s : Nat} (hs : s < S) (hq : ∀ J, ro B J → J 31 = drvR B F n cd r s → Q (.inl none) J T) : ev E 120 0 [some (.ref 30), some (.int (nI s)), none, none, none] [] I T Q := by
  refine p_driveOver_30 (hC.1.ro h) (hC.lr.ro h) hs (fun J hJ => ?_)
  rw [sidesC_30_R h hr, h.cell (c := 7) (by decide), h.cell (c := 8) (by decide), h.cell (c := 3) (by decide), hr]
  exact hq _ ((h.trans (hJ.ro sub_scc4)).trans (ro_row J (by decide) _)) rfl
theorem qt_rest (hC : Core B F S n cd) (h : ro B I) (hr : I 31 = r) (hq : ∀ J, ro B J → J 31 = restC (B 5) F r → Q (.inl none) J T) : ev E 142 0 [some (.ref 30), none] [] I T Q := by
  refine p_restOneDay_30 (hC.1.ro h) ?_
  rw [hr, h.cell (c := 5) (by decide)]
  exact hq _ (h.trans (ro_row I (by decide) _)) rfl
/-! the reference's -/
theorem rowR.lo (h : rowR r q) : ∀ j, j < 26 → q j = r j := h.1
theorem mt_copy (hC : Core B F S n cd) (h : ro B I) (h0 : I 46 0 = 0) (hq : ∀ J, ro B J → J 46 0 = 0 → (∀ j, j < 29 → J 509 j = B 508 j) → Q (.inl none) J T) : ev E 147 0 [some (.ref 508), some (.ref 509), none] [] I T Q := by
  refine p_copies (fun r hr => ?_)
  refine hq _ (h.trans (ro_row I (by decide) _)) h0 (fun j hj => ?_)
  show r j = _
  rw [hr j hj, h.cell (c := 508) (by decide)]
theorem rowR_copy (hC : Core B F S n cd) {r q : Nat → Int32} (hr : ∀ j, j < 29 → r j = B 29 j) (hq : ∀ j, j < 29 → q j = B 508 j) : rowR r q := by
  obtain ⟨a, b, c, d⟩ := hC.2.2.2.2.2.2.1
  refine ⟨fun j hj => ?_, ?_, ?_, ?_⟩
  · rw [hq j (by omega), hr j (by omega)]; exact a j hj
  · rw [hq 26 (by omega), hr 28 (by omega)]; exact b
  · rw [hq 27 (by omega), hr 27 (by omega)]; exact c
  · rw [hq 28 (by omega), hr 26 (by omega)]; exact d
theorem rowV_copy (hC : Core B F S n cd) {r : Nat → Int32} (hr : ∀ j, j < 29 → r j = B 29 j) : rowV r F S := by
  have h8 := hC.F8
  refine (hC.rv.w.congr h8 (fun j hj => hr j (by omega))).v ?_
  rw [hr 25 (by omega)]
  exact hC.rv.2.2.2.2
theorem sidesM_R (hC : Core B F S n cd) (h : ro B I) (hR : rowR r (I 509)) : sidesM_509 I F n cd = sidesR B F n cd r := by
  have h8 := hC.F8
  unfold sidesM_509 sidesR sides
  rw [bits_congr (fun f hf => hR.1 f (by omega))]
  refine rep_congr F 0 _ (fun f _ hf b => ?_)
  obtain ⟨e1, e2, -⟩ := hC.fe (show f < F by omega)
  unfold sd foM foR
  rw [h.cell (c := 61 + f) (scr_rng (a := 61) (b := 69) (by omega) (by omega) (by decide)), e1, e2, hR.1 f (by omega), hR.1 (8 + f) (by omega), hR.1 (16 + f) (by omega), hR.1 24 (by omega), hR.1 25 (by omega)]
theorem mt_plc (hC : Core B F S n cd) (hW : rowW r F) (hR : rowR r (I 509)) : plc (I 509) F := fun f hf => by
  have h8 := hC.F8
  rw [hR.1 f (by omega)]
  exact hW.1 f hf
theorem mt_canDrive (hC : Core B F S n cd) (h : ro B I) (hR : rowR r (I 509)) (hq : Q (.inl (some (.int (canD r F S)))) I T) : ev E 154 0 [some (.ref 46), some (.ref 509)] [] I T Q := by
  refine p_mcanDrive_509 (hC.2.1.ro h) ?_
  rw [canD_congr hC.F8 hR.1]; exact hq
theorem mt_bits (hC : Core B F S n cd) (h : ro B I) (hR : rowR r (I 509)) (hq : Q (.inl (some (.int (bits r F)))) I T) : ev E 152 0 [some (.ref 46), some (.ref 509), none, none] [] I T Q := by
  have h8 := hC.F8
  refine p_teamOf_509 (hC.2.1.ro h) ?_
  rw [bits_congr (fun f hf => hR.1 f (by omega))]; exact hq
theorem mt_canPut (hC : Core B F S n cd) (h : ro B I) (hR : rowR r (I 509)) {f : Nat} (hf : f < F) (p : Int32) (hq : Q (.inl (some (.int (canP r F (B 6 f) f p)))) I T) : ev E 150 0 [some (.ref 46), some (.ref 509), some (.int (nI f)), some (.int p)] [] I T Q := by
  refine p_canBePut_509 (hC.2.1.ro h) hf p ?_
  rw [canP_congr hC.F8 hR.1 _ hf, h.cell (c := 84) (by decide), (hC.fe hf).2.2.1]; exact hq
theorem mt_pulls (hC : Core B F S n cd) (h : ro B I) (h0 : I 46 0 = 0) (hW : rowW r F) (hR : rowR r (I 509)) (hq : ∀ J, ro B J → J 46 0 = 0 → J 509 = I 509 → Q (.inl (some (.int (stR B F n cd r)))) J T) : ev E 156 0 [some (.ref 46), some (.ref 509), some (.int 1), none, none, none, none] [] I T Q := by
  refine p_pulls_509 (hC.2.1.ro h) (hC.lr.ro h) (mt_plc hC hW hR) 1 true ⟨fun q => absurd q (by decide), fun q => by cases q⟩ (fun J hJ => ?_)
  rw [if_pos rfl, sidesM_R hC h hR]
  exact hq J (h.trans (hJ.ro sub_scc3)) (by rw [hJ 46 (by decide)]; exact h0) (hJ 509 (by decide))
theorem mt_tilt (hC : Core B F S n cd) (h : ro B I) (h0 : I 46 0 = 0) (hW : rowW r F) (hR : rowR r (I 509)) (hq : ∀ J, ro B J → J 46 0 = 0 → J 509 = I 509 → Q (.inl (some (.int (tlR B F n cd r)))) J T) : ev E 164 0 [some (.ref 46), some (.ref 509), none] [] I T Q := by
  refine p_tiltOf_509 (hC.2.1.ro h) (hC.lr.ro h) (mt_plc hC hW hR) (fun J hJ => ?_)
  rw [sidesM_R hC h hR]
  exact hq J (h.trans (hJ.ro sub_scc3)) (by rw [hJ 46 (by decide)]; exact h0) (hJ 509 (by decide))
theorem mt_driven (hC : Core B F S n cd) (h : ro B I) (h0 : I 46 0 = 0) (hW : rowW r F) (hR : rowR r (I 509)) {s : Nat} (hs : s < S) (hq : ∀ J, ro B J → J 46 0 = 0 → rowR (drvR B F n cd r s) (J 509) → Q (.inl (some (.int (nI (outR B F n cd r s))))) J T) : ev E 155 0 [some (.ref 46), some (.ref 509), some (.int (nI s)), none, none, none, none] [] I T Q := by
  have h6 := hC.S6
  obtain ⟨e1, e2, -⟩ := hC.st hs
  have k1 : I (77 + s) 0 = B 7 s := by rw [h.cell (c := 77 + s) (scr_rng (a := 77) (b := 83) (by omega) (by omega) (by decide))]; exact e1
  have k2 : I (77 + s) 1 = B 8 s := by rw [h.cell (c := 77 + s) (scr_rng (a := 77) (b := 83) (by omega) (by omega) (by decide))]; exact e2
  have k3 : I 50 2 = B 3 7 := by rw [h.cell (c := 50) (by decide)]; exact hC.br
  refine p_driven_509 (hC.2.1.ro h) (hC.lr.ro h) (mt_plc hC hW hR) (by omega) (fun ho => ?_) (fun J hJ => ?_)
  · rw [sidesM_R hC h hR] at ho ⊢
    rw [k1, k2, k3] at ho
    obtain ⟨k, a1, a2, a3⟩ := out_pos hC hs ho
    rw [a3]
    exact nI_ne0 a1 a2
  · rw [sidesM_R hC h hR, k1, k2, k3, outc_N]
    exact hq _ ((h.trans (hJ.ro sub_scc3)).trans (ro_row J (by decide) _)) (by show J 46 0 = 0; rw [hJ 46 (by decide)]; exact h0) (drv_alike hC hs hW hR)
theorem restM_congr {c1 c2 : Nat → Int32} {F : Nat} (h : ∀ f, f < F → c1 f = c2 f) (q : Nat → Int32) : restM c1 F q = restM c2 F q := by
  unfold restM
  have : rep (rsM c1) F 0 q = rep (rsM c2) F 0 q := rep_congr F 0 q (fun f _ hf b => by unfold rsM easeC; rw [h f (by omega)])
  rw [this]
theorem rst_alike (hC : Core B F S n cd) (hW : rowW r F) (hR : rowR r q) : rowR (restC (B 5) F r) (restM (B 5) F q) := by
  refine rest_alike hC.F8 hR (fun g hg => ?_)
  obtain ⟨t, ht, et⟩ := hW.2.2.2 g hg
  have e9 : (999 : Int32).toInt = 999 := rfl
  have he : ∃ e, e ≤ 12 ∧ easeC r (B 5) g = nI e := by
    unfold easeC
    by_cases c : r g = -1
    · rw [if_pos c]
      obtain ⟨-, -, -, -, ⟨m, hm, e⟩, -⟩ := hC.fe hg
      exact ⟨3 + m, by omega, by rw [e]; exact nI_add 3 m⟩
    · rw [if_neg c]
      exact ⟨1, by omega, rfl⟩
  obtain ⟨e, he, ee⟩ := he
  rw [et, ee, fa_le, e9, pk_sub_toInt (by omega) (by omega)]
  omega
theorem mt_rests (hC : Core B F S n cd) (h : ro B I) (h0 : I 46 0 = 0) (hW : rowW r F) (hR : rowR r (I 509)) (hq : ∀ J, ro B J → J 46 0 = 0 → rowR (restC (B 5) F r) (J 509) → Q (.inl none) J T) : ev E 168 0 [some (.ref 46), some (.ref 509), none] [] I T Q := by
  have h8 := hC.F8
  refine p_rests_509 (hC.2.1.ro h) ?_
  rw [restM_congr (c2 := B 5) (fun f hf => by rw [h.cell (c := 61 + f) (scr_rng (a := 61) (b := 69) (by omega) (by omega) (by decide))]; exact (hC.fe hf).2.1)]
  exact hq _ (h.trans (ro_row I (by decide) _)) h0 (rst_alike hC hW hR)
end TRIAL
