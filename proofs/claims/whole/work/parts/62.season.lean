/-! ===== season ===== -/
def nx (x : Int32) : Int32 := x * 1103515245 + 12345
/-- a lot that is drawn -/
def dN (x : Int32) (b : Nat) : Nat := (nx x).toBitVec.toNat / 65536 % 32768 % b
theorem lot_c (x : Int32) : (i_ushr x 16) &&& 32767 = nI (x.toBitVec.toNat / 65536 % 32768) := by
  have h1 := pk_and (i_ushr x 16) (m := 32767) 15 (by decide)
  have h2 := pk_ushr x 16 16 (by decide)
  rw [h1]
  unfold i_ushr
  rw [h2]
theorem lot_m (x : Int32) : (x >>> ((16 : Int32) &&& 31)) &&& 32767 = nI (x.toBitVec.toNat / 65536 % 32768) := by
  have h1 := pk_and (x >>> ((16 : Int32) &&& 31)) (m := 32767) 15 (by decide)
  have h2 := pk_shr x ((16 : Int32) &&& 31) 16 (by decide)
  rw [h1]
  have e1 : x.toInt = if x.toBitVec.toNat < 2147483648 then (x.toBitVec.toNat : Int) else (x.toBitVec.toNat : Int) - 4294967296 := by
    show x.toBitVec.toInt = _
    rw [BitVec.toInt_eq_toNat_cond]
    split
    · rw [if_pos (by omega)]
    · rw [if_neg (by omega)]; rfl
  generalize hy : x >>> ((16 : Int32) &&& 31) = y at h2 ⊢
  have e2 : y.toInt = if y.toBitVec.toNat < 2147483648 then (y.toBitVec.toNat : Int) else (y.toBitVec.toNat : Int) - 4294967296 := by
    show y.toBitVec.toInt = _
    rw [BitVec.toInt_eq_toNat_cond]
    split
    · rw [if_pos (by omega)]
    · rw [if_neg (by omega)]; rfl
  rw [Int.shiftRight_eq_div_pow] at h2
  have hx := x.toBitVec.isLt
  have hyl := y.toBitVec.isLt
  congr 1
  generalize x.toBitVec.toNat = a at e1 hx ⊢
  generalize y.toBitVec.toNat = b at e2 hyl ⊢
  rw [e1, e2] at h2
  have e3 : ((2 ^ 16 : Nat) : Int) = 65536 := rfl
  rw [e3] at h2
  have e4 : (2 : Nat) ^ 15 = 32768 := rfl
  rw [e4]
  split at h2 <;> split at h2 <;> omega
def tmS (B : II) (F : Nat) (x : Int32 × (Nat → Int32)) : Int32 × (Nat → Int32) := if F = 0 then x else if x.2 (dN x.1 F) = -1 then (nx (nx x.1), if canP x.2 F (B 6 (dN x.1 F)) (dN x.1 F) (nI (dN (nx x.1) 4)) = 0 then x.2 else upd x.2 (dN x.1 F) (nI (dN (nx x.1) 4))) else (nx x.1, upd x.2 (dN x.1 F) (-1))
def goS (B : II) (F S n : Nat) (cd : Nat → Nat × Int32) (w : Int32) (x : Int32 × (Nat → Int32)) : Int32 × (Nat → Int32) := (nx x.1, if w ≤ nI (dN x.1 16) then x.2 else if nI S ≤ x.2 25 then upd x.2 25 0 else if canD x.2 F S = 0 then x.2 else drvR B F n cd x.2 (x.2 25).toNatClampNeg)
def dayS (B : II) (F S n : Nat) (cd : Nat → Nat × Int32) (w : Int32) (x : Int32 × (Nat → Int32)) : Int32 × (Nat → Int32) := ((goS B F S n cd w (tmS B F x)).1, restC (B 5) F (goS B F S n cd w (tmS B F x)).2)
def ssn (B : II) (F S n : Nat) (cd : Nat → Nat × Int32) (w : Int32) (days : Nat) (sd : Int32) : Nat → Int32 := (rep (fun _ x => dayS B F S n cd w x) days 0 (sd, B 29)).2
theorem dN_lt {x : Int32} {b : Nat} (h : 0 < b) : dN x b < b := Nat.mod_lt _ h
theorem canP_who {r : Nat → Int32} {F : Nat} (hF : F ≤ 8) {foes : Int32} {f : Nat} {p : Int32} (h : canP r F foes f p ≠ 0) : r f = -1 ∧ ∀ g, g < F → r g ≠ p := by
  unfold canP at h
  by_cases c : r f = -1
  · rw [if_pos c] at h
    refine ⟨c, fun g hg => ?_⟩
    by_cases c2 : whoAt r p F 0 = -1
    · rcases who_cases (r := r) (p := p) F 0 with ⟨a, b⟩ | ⟨k, k1, k2, k3, k4⟩
      · exact b g (by omega) (by omega)
      · rw [c2] at k3
        exact absurd k3.symm (nI_m1 (by omega))
    · rw [if_neg c2] at h; exact absurd rfl h
  · rw [if_neg c] at h; exact absurd rfl h
theorem drive_28 {F : Nat} (hF : F ≤ 8) (len turn bears st tilt : Int32) (r : Nat → Int32) : driveC len turn bears st tilt F r 28 = if outN len turn bears st tilt = 2 then r 28 + 1 else r 28 := by
  have hk := outN_lt len turn bears st tilt
  unfold driveC
  generalize outN len turn bears st tilt = k at hk ⊢
  unfold tally
  match k, hk with
  | 0, _ => rw [if_pos rfl, if_neg (by decide), upd_ne (by omega)]; exact hi_tire (by omega) F 0 (by omega) r
  | 1, _ => rw [if_neg (by decide), if_pos rfl, if_neg (by decide), upd_ne (by omega), hi_spill (by omega) F 0 (by omega)]; exact hi_tire (by omega) F 0 (by omega) r
  | 2, _ =>
    rw [if_neg (by decide), if_neg (by decide), if_pos rfl]
    show upd _ 28 _ 28 = _
    rw [upd_at]
    unfold thruC
    rw [upd_ne (by omega), hi_tire (by omega) F 0 (by omega) r]

section SSN
variable {E : MEnv} {B I : II} {T : TT} {Q : QQ} {F S n : Nat} {cd : Nat → Nat × Int32} {r q : Nat → Int32}
theorem tm_V (hC : Core B F S n cd) {x : Int32 × (Nat → Int32)} (hV : rowV x.2 F S) : rowV (tmS B F x).2 F S ∧ (tmS B F x).2 28 = x.2 28 := by
  have h8 := hC.F8
  unfold tmS
  by_cases c : F = 0
  · rw [if_pos c]; exact ⟨hV, rfl⟩
  · rw [if_neg c]
    have hf := dN_lt (x := x.1) (b := F) (by omega)
    have hp := dN_lt (x := nx x.1) (b := 4) (by omega)
    by_cases c2 : x.2 (dN x.1 F) = -1
    · rw [if_pos c2]
      by_cases c3 : canP x.2 F (B 6 (dN x.1 F)) (dN x.1 F) (nI (dN (nx x.1) 4)) = 0
      · show rowV (if _ then _ else _) F S ∧ _
        rw [if_pos c3]
        exact ⟨hV, rfl⟩
      · obtain ⟨k1, k2⟩ := canP_who h8 c3
        refine ⟨?_, ?_⟩
        · show rowV (if _ then _ else _) F S
          rw [if_neg c3]
          refine (hV.w.put h8 (by omega) hp k2).v ?_
          rw [upd_ne (by omega)]; exact hV.2.2.2.2
        · show (if _ then _ else _ : Nat → Int32) 28 = _
          rw [if_neg c3, upd_ne (by omega)]
    · rw [if_neg c2]
      refine ⟨(hV.w.out h8 (by omega)).v ?_, upd_ne (by omega)⟩
      rw [upd_ne (by omega)]; exact hV.2.2.2.2
theorem go_V (hC : Core B F S n cd) (w : Int32) {x : Int32 × (Nat → Int32)} (hV : rowV x.2 F S) : rowV (goS B F S n cd w x).2 F S ∧ ((goS B F S n cd w x).2 28 = x.2 28 ∨ (goS B F S n cd w x).2 28 = x.2 28 + 1) := by
  have h8 := hC.F8
  have h6 := hC.S6
  show rowV (if _ then _ else _) F S ∧ ((if _ then _ else _ : Nat → Int32) 28 = _ ∨ (if _ then _ else _ : Nat → Int32) 28 = _)
  by_cases c : w ≤ nI (dN x.1 16)
  · simp only [if_pos c]; exact ⟨hV, Or.inl trivial⟩
  · simp only [if_neg c]
    by_cases c2 : nI S ≤ x.2 25
    · simp only [if_pos c2]
      exact ⟨(hV.w.hi h8 (by omega) _).v ⟨0, by omega, upd_at _ _ _⟩, Or.inl (upd_ne (by omega))⟩
    · simp only [if_neg c2]
      by_cases c3 : canD x.2 F S = 0
      · simp only [if_pos c3]; exact ⟨hV, Or.inl trivial⟩
      · simp only [if_neg c3]
        obtain ⟨-, b, hb, e⟩ := canD_lt h6 hV.2.2.2.2 c3
        rw [e, nI_clamp (by omega)]
        refine ⟨drv_V hC hb hV.w e, ?_⟩
        unfold drvR
        rw [drive_28 h8]
        split
        · exact Or.inr rfl
        · exact Or.inl rfl
theorem day_V (hC : Core B F S n cd) (w : Int32) {x : Int32 × (Nat → Int32)} (hV : rowV x.2 F S) : rowV (dayS B F S n cd w x).2 F S ∧ ((dayS B F S n cd w x).2 28 = x.2 28 ∨ (dayS B F S n cd w x).2 28 = x.2 28 + 1) := by
  have h8 := hC.F8
  obtain ⟨a1, a2⟩ := tm_V hC hV
  obtain ⟨b1, b2⟩ := go_V hC w a1
  rw [a2] at b2
  refine ⟨(W_rest h8 b1.w _).v ?_, ?_⟩
  · rw [hi_rest (by omega) h8]; exact b1.2.2.2.2
  · show restC _ _ _ 28 = _ ∨ restC _ _ _ 28 = _
    rw [hi_rest (by omega) h8]; exact b2
theorem ssn_V (hC : Core B F S n cd) (w : Int32) : ∀ (d k i : Nat) (x : Int32 × (Nat → Int32)), rowV x.2 F S → x.2 28 = B 29 28 + nI k → rowV (rep (fun _ x => dayS B F S n cd w x) d i x).2 F S ∧ ∃ m, m ≤ k + d ∧ (rep (fun _ x => dayS B F S n cd w x) d i x).2 28 = B 29 28 + nI m
  | 0, k, i, x, hV, hk => ⟨hV, k, by omega, hk⟩
  | d + 1, k, i, x, hV, hk => by
    rw [rep]
    obtain ⟨a1, a2⟩ := day_V hC w hV
    rcases a2 with e | e
    · obtain ⟨b1, m, b2, b3⟩ := ssn_V hC w d k (i + 1) _ a1 (by rw [e]; exact hk)
      exact ⟨b1, m, by omega, b3⟩
    · obtain ⟨b1, m, b2, b3⟩ := ssn_V hC w d (k + 1) (i + 1) _ a1 (by rw [e, hk, Int32.add_assoc, nI_1])
      exact ⟨b1, m, by omega, b3⟩
theorem ssn_k (hC : Core B F S n cd) (w : Int32) (days : Nat) (sd : Int32) : rowV (ssn B F S n cd w days sd) F S ∧ ∃ m, m ≤ days ∧ ssn B F S n cd w days sd 28 - B 29 28 = nI m := by
  obtain ⟨a, m, b, c⟩ := ssn_V hC w days 0 0 (sd, B 29) hC.rv (Int32.add_zero _).symm
  refine ⟨a, m, by omega, ?_⟩
  unfold ssn
  rw [c, Int32.add_comm, Int32.add_sub_cancel]
/-! the class -/
theorem rx_takeOut (hC : Core B F S n cd) (h : ro B I) (hr : agr (I 31) r) {f : Nat} (hf : f < F) (hq : ∀ J, FR [18, 19, 30, 31] I J → agr (J 31) (upd r f (-1)) → Q (.inl none) J T) : ev E 118 0 [some (.ref 30), some (.int (nI f))] [] I T Q := by
  refine p_takeOut_30 (hC.1.ro h) hf ?_
  exact hq _ (FR.row (by decide) _) (hr.upd _ _)
theorem rx_setPlace (hC : Core B F S n cd) (h : ro B I) (hr : agr (I 31) r) {f : Nat} (hf : f < F) (v : Int32) (hq : ∀ J, FR [18, 19, 30, 31] I J → agr (J 31) (upd r f v) → Q (.inl none) J T) : ev E 117 0 [some (.ref 30), some (.int (nI f)), some (.int v)] [] I T Q := by
  refine p_setPlace_30 (hC.1.ro h) hf v ?_
  exact hq _ (FR.row (by decide) _) (hr.upd _ _)
theorem rx_rest (hC : Core B F S n cd) (h : ro B I) (hr : agr (I 31) r) (hq : ∀ J, FR [18, 19, 30, 31] I J → agr (J 31) (restC (B 5) F r) → Q (.inl none) J T) : ev E 142 0 [some (.ref 30), none] [] I T Q := by
  refine p_restOneDay_30 (hC.1.ro h) ?_
  rw [h.cell (c := 5) (by decide)]
  exact hq _ (FR.row (by decide) _) (agr_rest hr hC.F8 _)
theorem rx_drive (hC : Core B F S n cd) (h : ro B I) (hr : agr (I 31) r) {s : Nat} (hs : s < S) (hq : ∀ J, FR [18, 19, 30, 31] I J → agr (J 31) (drvR B F n cd r s) → Q (.inl none) J T) : ev E 120 0 [some (.ref 30), some (.int (nI s)), none, none, none] [] I T Q := by
  refine p_driveOver_30 (hC.1.ro h) (hC.lr.ro h) hs (fun J hJ => ?_)
  refine hq _ ((hJ.mono (by decide)).trans (FR.row (by decide) _)) ?_
  rw [sidesC_30_R h rfl, h.cell (c := 7) (by decide), h.cell (c := 8) (by decide), h.cell (c := 3) (by decide)]
  exact drvR_agr hC.F8 hr s
theorem qs_drawn {b : Nat} (hb : 0 < b) (hb2 : b < 2 ^ 30) {sd : Int32} (hs : I 0 12 = sd) (hq : Q (.inl (some (.int (nI (dN sd b))))) (m_up I 0 12 (nx sd)) T) : ev E 315 0 [some (.ref 0), some (.int (nI b))] [] I T Q := by
  refine s_X_drawn_0 ?_
  unfold t_X_drawn_0 t_X_drawn_20
  rw [hs]
  refine bq_t (nI_lt (a := 0) (b := b) hb (by omega)) ⟨nI_ne0 hb (by omega), ?_⟩
  have e : (m_up I 0 12 (sd * 1103515245 + 12345)) 0 12 = nx sd := rfl
  rw [e, lot_c, pk_rem (by omega) hb (by omega)]
  exact hq
/-- a state of the season: the class's -/
def stC (I : II) (x : Int32 × (Nat → Int32)) : Prop := I 0 12 = x.1 ∧ agr (I 31) x.2
theorem stC_F {I J : II} {x : Int32 × (Nat → Int32)} {r : Nat → Int32} (h : stC I x) (hJ : FR [18, 19, 30, 31] I J) (hr : agr (J 31) r) : stC J (x.1, r) := ⟨by rw [hJ 0 (by decide)]; exact h.1, hr⟩
theorem fr_ro (h : ro B I) {J : II} (hJ : FR [18, 19, 30, 31] I J) : ro B J := h.trans (hJ.ro (by decide))
theorem qs_change (hC : Core B F S n cd) (h : ro B I) {x : Int32 × (Nat → Int32)} (hx : stC I x) (hq : ∀ J, ro B J → stC J (tmS B F x) → Q (.inl none) J T) : ev E 314 0 [some (.ref 0), none, none] [] I T Q := by
  have h8 := hC.F8
  refine s_X_changeTeam_0 ?_
  unfold t_X_changeTeam_0 t_X_changeTeam_36
  rw [(hC.1.ro h).1]
  unfold tmS at hq
  by_cases c : F = 0
  · rw [if_pos c] at hq
    exact bq_t (by rw [c]; rfl) (hq I h hx)
  · rw [if_neg c] at hq
    refine bq_f (nI_ne0 (by omega) (by omega)) ?_
    refine qs_drawn (by omega) (by omega) hx.1 ?_
    have hf := dN_lt (x := x.1) (b := F) (by omega)
    have hp := dN_lt (x := nx x.1) (b := 4) (by omega)
    have h2 : ro B (m_up I 0 12 (nx x.1)) := h.trans (ro_seed I _)
    have r2 : agr ((m_up I 0 12 (nx x.1)) 31) x.2 := hx.2
    refine ra_has hC h2 r2 hf ?_
    by_cases c2 : x.2 (dN x.1 F) = -1
    · rw [if_pos c2] at hq ⊢
      refine bq_t rfl ?_
      refine qs_drawn (b := 4) (by omega) (by omega) (sd := nx x.1) rfl ?_
      have h3 : ro B (m_up (m_up I 0 12 (nx x.1)) 0 12 (nx (nx x.1))) := h2.trans (ro_seed _ _)
      have r3 : agr ((m_up (m_up I 0 12 (nx x.1)) 0 12 (nx (nx x.1))) 31) x.2 := hx.2
      refine ra_canPut hC h3 r3 hf _ ?_
      refine ⟨fun c3 => ?_, fun c3 => ?_⟩
      · rw [if_pos c3] at hq
        exact hq _ h3 ⟨rfl, r3⟩
      · rw [if_neg c3] at hq
        refine rx_setPlace hC h3 r3 hf _ (fun J hJ hj => ?_)
        exact hq J (fr_ro h3 hJ) ⟨by rw [hJ 0 (by decide)]; rfl, hj⟩
    · rw [if_neg c2] at hq ⊢
      refine bq_f (by decide) ?_
      refine rx_takeOut hC h2 r2 hf (fun J hJ hj => ?_)
      exact hq J (fr_ro h2 hJ) ⟨by rw [hJ 0 (by decide)]; rfl, hj⟩
theorem l_xplay (hC : Core B F S n cd) {days w : Nat} (hd : days ≤ 96) : ∀ (d i : Nat) (x : Int32 × (Nat → Int32)) (I : II), ro B I → stC I x → rowV x.2 F S → i + d = days → (∀ J, ro B J → stC J (rep (fun _ x => dayS B F S n cd (nI w) x) d i x) → Q (.inl none) J T) → t_X_playSeason_10 E I T Q (nI days) (nI w) (nI i)
  | 0, i, x, I, h, hx, hV, hi, hq => by
    unfold t_X_playSeason_10
    exact bq_t (nI_le (by omega) (by omega)) (hq I h hx)
  | d + 1, i, x, I, h, hx, hV, hi, hq => by
    have h8 := hC.F8
    have h6 := hC.S6
    unfold t_X_playSeason_10
    refine bq_f (nI_ge (by omega) (by omega)) ?_
    refine qs_change hC h hx (fun J hJ hj => ?_)
    obtain ⟨v1, -⟩ := tm_V hC hV
    rw [rep] at hq
    unfold dayS at hq
    generalize hy : tmS B F x = y at hq hj v1
    have hvd := (go_V hC (nI w) v1).1
    refine qs_drawn (b := 16) (by omega) (by omega) hj.1 ?_
    have h2 : ro B (m_up J 0 12 (nx y.1)) := hJ.trans (ro_seed J _)
    have s2 : stC (m_up J 0 12 (nx y.1)) (nx y.1, y.2) := ⟨rfl, hj.2⟩
    have next : ∀ K, ro B K → stC K (goS B F S n cd (nI w) y) → t_X_playSeason_41 E K T Q (nI days) (nI w) (nI i) := by
      intro K hK sK
      unfold t_X_playSeason_41
      refine rx_rest hC hK sK.2 (fun L hL hl => ?_)
      rw [nI_1]
      refine s_X_playSeason_10 (l_xplay hC hd d (i + 1) _ L (fr_ro hK hL) ⟨by rw [hL 0 (by decide)]; exact sK.1, hl⟩ ?_ (by omega) hq)
      refine (W_rest h8 hvd.w _).v ?_
      rw [hi_rest (by omega) h8]; exact hvd.2.2.2.2
    unfold goS at next
    refine ⟨fun c => ?_, fun c => ?_⟩
    · rw [if_pos c] at next
      exact next _ h2 s2
    · rw [if_neg c] at next
      refine ra_behind s2.2 ?_
      have e36 : (m_up J 0 12 (nx y.1)) 3 6 = nI S := (hC.1.ro h2).2.2.1
      refine ⟨fun c2 => ?_, fun c2 => ?_⟩
      · have c2 : y.2 25 < nI S := by rw [← e36]; exact c2
        rw [if_neg (fa_of_lt c2).2.1] at next
        refine ra_canDrive hC h2 s2.2 ?_
        refine ⟨fun c3 => ?_, fun c3 => ?_⟩
        · rw [if_pos c3] at next
          exact next _ h2 s2
        · rw [if_neg c3] at next
          obtain ⟨-, b, hb, e⟩ := canD_lt h6 v1.2.2.2.2 c3
          rw [e, nI_clamp (by omega)] at next
          refine ra_behind s2.2 ?_
          show ev E 120 0 [some (.ref 30), some (.int (y.2 25)), none, none, none] [] _ T _
          rw [e]
          have s2r : agr ((m_up J 0 12 (nx y.1)) 31) y.2 := hj.2
          refine rx_drive hC h2 s2r hb (fun K hK hk => ?_)
          exact next K (fr_ro h2 hK) ⟨by rw [hK 0 (by decide)]; rfl, hk⟩
      · have c2 : ¬ y.2 25 < nI S := by rw [← e36]; exact c2
        rw [if_pos (fa_of_nlt c2)] at next
        refine s_Coach_goHome_30_0 ?_
        have a2 := s2.2.upd 25 0
        refine next _ (h2.trans (ro_up _ (by decide) _ _)) ⟨rfl, fun j hj2 => ?_⟩
        rw [m_up_at]
        exact a2 j hj2
theorem qs_play (hC : Core B F S n cd) (h : ro B I) {days w : Nat} (hd : days ≤ 96) (sd : Int32) (hq : ∀ J, ro B J → agr (J 31) (ssn B F S n cd (nI w) days sd) → Q (.inl none) J T) : ev E 313 0 [some (.ref 0), some (.int sd), some (.int (nI days)), some (.int (nI w)), none] [] I T Q := by
  refine s_X_playSeason_0 ?_
  unfold t_X_playSeason_0
  refine ra_copy h (fun J hJ hj => ?_)
  exact l_xplay hC hd days 0 (sd, B 29) _ (hJ.trans (ro_seed J sd)) ⟨rfl, hj⟩ hC.rv (by omega) (fun K hK sK => hq K hK sK.2)
/-! the reference -/
theorem qs_draw {b : Nat} (hb : 0 < b) (hb2 : b < 2 ^ 30) {sd : Int32} (hs : I 46 47 = sd) (hq : Q (.inl (some (.int (nI (dN sd b))))) (m_up I 46 47 (nx sd)) T) : ev E 320 0 [some (.ref 46), some (.int (nI b))] [] I T Q := by
  refine s_M_draw_0 ?_
  unfold t_M_draw_0
  rw [hs]
  refine ⟨nI_ne0 hb (by omega), ?_⟩
  have e : (m_up I 46 47 (sd * 1103515245 + 12345)) 46 47 = nx sd := rfl
  rw [e, lot_m, pk_rem (by omega) hb (by omega)]
  exact hq
def stM (I : II) (x : Int32 × (Nat → Int32)) : Prop := I 46 0 = 0 ∧ I 46 47 = x.1 ∧ rowR x.2 (I 509)
theorem stM_F {I J : II} {x : Int32 × (Nat → Int32)} {r : Nat → Int32} (h : stM I x) (hJ : FR [425, 426, 509] I J) (hr : rowR r (J 509)) : stM J (x.1, r) := ⟨by rw [hJ 46 (by decide)]; exact h.1, by rw [hJ 46 (by decide)]; exact h.2.1, hr⟩
theorem stM_draw {I : II} {x : Int32 × (Nat → Int32)} (h : stM I x) (v : Int32) : stM (m_up I 46 47 v) (v, x.2) := ⟨h.1, rfl, h.2.2⟩
theorem up_509 (I : II) (j : Nat) (v : Int32) : (m_up I 509 j v) 509 = upd (I 509) j v := by
  funext k
  rw [m_up_at]
  rfl
theorem l_mplay (hC : Core B F S n cd) {days w : Nat} (hd : days ≤ 96) : ∀ (d i : Nat) (x : Int32 × (Nat → Int32)) (I : II), ro B I → stM I x → rowV x.2 F S → i + d = days → (∀ J, ro B J → stM J (rep (fun _ x => dayS B F S n cd (nI w) x) d i x) → Q (.inl none) J T) → t_M_seasonBy_10 E I T Q (nI days) (nI w) (nI i)
  | 0, i, x, I, h, hx, hV, hi, hq => by
    unfold t_M_seasonBy_10
    exact bq_t (nI_le (by omega) (by omega)) (hq I h hx)
  | d + 1, i, x, I, h, hx, hV, hi, hq => by
    have h8 := hC.F8
    have h6 := hC.S6
    obtain ⟨v1, -⟩ := tm_V hC hV
    -- behind the change of the team
    have fin : ∀ K, ro B K → stM K (tmS B F x) → t_M_seasonBy_58 E K T Q (nI days) (nI w) (nI i) := by
      intro K hK sK
      rw [rep] at hq
      unfold dayS at hq
      generalize tmS B F x = y at hq sK v1
      have hvd := (go_V hC (nI w) v1).1
      unfold t_M_seasonBy_58
      refine qs_draw (b := 16) (by omega) (by omega) sK.2.1 ?_
      have h2 : ro B (m_up K 46 47 (nx y.1)) := hK.trans (ro_46 K (by omega) _)
      have s2 : stM (m_up K 46 47 (nx y.1)) (nx y.1, y.2) := stM_draw sK _
      have next : ∀ L, ro B L → stM L (goS B F S n cd (nI w) y) → t_M_seasonBy_92 E L T Q (nI days) (nI w) (nI i) := by
        intro L hL sL
        unfold t_M_seasonBy_92
        refine p_rests_509 (hC.2.1.ro hL) ?_
        rw [restM_congr (c2 := B 5) (fun f hf => by rw [hL.cell (c := 61 + f) (scr_rng (a := 61) (b := 69) (by omega) (by omega) (by decide))]; exact (hC.fe hf).2.1)]
        rw [nI_1]
        refine s_M_seasonBy_10 (l_mplay hC hd d (i + 1) ((goS B F S n cd (nI w) y).1, restC (B 5) F (goS B F S n cd (nI w) y).2) _ (hL.trans (ro_row L (by decide) _)) ⟨sL.1, sL.2.1, rst_alike hC hvd.w sL.2.2⟩ ?_ (by omega) hq)
        refine (W_rest h8 hvd.w _).v ?_
        rw [hi_rest (by omega) h8]; exact hvd.2.2.2.2
      unfold goS at next
      refine ⟨fun c => ?_, fun c => ?_⟩
      · rw [if_pos c] at next
        exact next _ h2 s2
      · rw [if_neg c] at next
        obtain ⟨b, hb, e⟩ := v1.2.2.2.2
        have e25 : (m_up K 46 47 (nx y.1)) 509 25 = y.2 25 := s2.2.2.1 25 (by omega)
        have e51 : (m_up K 46 47 (nx y.1)) 50 1 = nI S := (hC.2.1.ro h2).2.2.1
        refine ⟨fun c2 => ?_, fun c2 => ?_⟩
        · have c2 : y.2 25 = nI S := by rw [← e25, ← e51]; exact c2
          rw [if_pos (by rw [c2]; exact nI_le (Nat.le_refl _) (by omega))] at next
          refine next _ (h2.trans (ro_up _ (by decide) _ _)) ⟨sK.1, rfl, ?_⟩
          rw [up_509]
          exact s2.2.2.up (by omega) rfl
        · have c3 : ¬ nI S ≤ y.2 25 := fun z => c2 (by
            show (m_up K 46 47 (nx y.1)) 509 25 = (m_up K 46 47 (nx y.1)) 50 1
            rw [e, nI_leI (by omega) (by omega)] at z
            rw [e25, e51, e, show b = S by omega])
          rw [if_neg c3] at next
          refine mt_canDrive hC h2 s2.2.2 ?_
          refine ⟨fun c4 => ?_, fun c4 => ?_⟩
          · rw [if_pos c4] at next
            exact next _ h2 s2
          · rw [if_neg c4] at next
            obtain ⟨-, b2, hb2, e2⟩ := canD_lt h6 v1.2.2.2.2 c4
            rw [e2, nI_clamp (by omega)] at next
            rw [s2.2.2.1 25 (by omega)]
            show ev E 155 0 [some (.ref 46), some (.ref 509), some (.int (y.2 25)), none, none, none, none] [] _ T _
            rw [e2]
            have s2R : rowR y.2 ((m_up K 46 47 (nx y.1)) 509) := sK.2.2
            refine mt_drivenF hC h2 v1.w s2R hb2 (fun L hL hl => ?_)
            exact next L (h2.trans (hL.ro (by decide))) ⟨by rw [hL 46 (by decide)]; exact sK.1, by rw [hL 46 (by decide)]; rfl, hl⟩
    unfold t_M_seasonBy_10 t_M_seasonBy_26
    rw [(hC.2.1.ro h).1]
    refine bq_f (nI_ge (by omega) (by omega)) ?_
    unfold tmS at fin
    by_cases c : F = 0
    · rw [if_pos c] at fin
      exact bq_t (by rw [c]; decide) (bq_t rfl (fin I h hx))
    · rw [if_neg c] at fin
      have hf := dN_lt (x := x.1) (b := F) (by omega)
      have hp := dN_lt (x := nx x.1) (b := 4) (by omega)
      refine bq_f (nI_nle (by omega) (by omega)) ?_
      refine qs_draw (by omega) (by omega) hx.2.1 ?_
      have h2 : ro B (m_up I 46 47 (nx x.1)) := h.trans (ro_46 I (by omega) _)
      have s2 : stM (m_up I 46 47 (nx x.1)) (nx x.1, x.2) := stM_draw hx _
      refine bq_f (nI_m1 (by omega)) ?_
      rw [z0]
      refine s_M_becomes_509_0 ?_
      unfold t_M_becomes_509_0
      refine ⟨gix (by omega) (by omega), ?_⟩
      rw [nI_clamp (show dN x.1 F < 2 ^ 31 by omega), s2.2.2.1 (dN x.1 F) (by omega)]
      show (x.2 (dN x.1 F) = -1 → _) ∧ (¬ x.2 (dN x.1 F) = -1 → _)
      refine ⟨fun c2 => bq_t rfl ?_, fun c2 => ⟨⟨nI_pos (by omega), by omega⟩, bq_f (by decide) ?_⟩⟩
      · rw [if_pos c2] at fin
        refine qs_draw (b := 4) (by omega) (by omega) (sd := nx x.1) rfl ?_
        have h3 : ro B (m_up (m_up I 46 47 (nx x.1)) 46 47 (nx (nx x.1))) := h2.trans (ro_46 _ (by omega) _)
        have s3 : stM (m_up (m_up I 46 47 (nx x.1)) 46 47 (nx (nx x.1))) (nx (nx x.1), x.2) := stM_draw s2 _
        refine mt_canPut hC h3 s3.2.2 hf _ ?_
        unfold t_M_seasonBy_57
        rw [nI_clamp (show dN x.1 F < 2 ^ 31 by omega)]
        refine ⟨fun c3 => ⟨⟨nI_pos (by omega), by omega⟩, ?_⟩, fun c3 => ⟨⟨nI_pos (by omega), by omega⟩, ?_⟩⟩
        · rw [if_pos c3] at fin
          refine fin _ (h3.trans (ro_up _ (by decide) _ _)) ⟨hx.1, rfl, ?_⟩
          rw [up_509, fa_upd_same (by rw [s3.2.2.1 _ (by omega)]; exact c2)]
          exact s3.2.2
        · rw [if_neg c3] at fin
          refine fin _ (h3.trans (ro_up _ (by decide) _ _)) ⟨hx.1, rfl, ?_⟩
          rw [up_509]
          exact s3.2.2.up (by omega) rfl
      · rw [if_neg c2] at fin
        refine fin _ (h2.trans (ro_up _ (by decide) _ _)) ⟨hx.1, rfl, ?_⟩
        rw [up_509]
        exact s2.2.2.up (by omega) rfl
theorem qs_mplay (hC : Core B F S n cd) (h : ro B I) (h0 : I 46 0 = 0) {days w : Nat} (hd : days ≤ 96) (sd : Int32) (hq : ∀ J, ro B J → J 46 0 = 0 → rowR (ssn B F S n cd (nI w) days sd) (J 509) → Q (.inl none) J T) : ev E 319 0 [some (.ref 46), some (.int sd), some (.int (nI days)), some (.int (nI w)), none, none, none] [] I T Q := by
  refine s_M_seasonBy_0 ?_
  unfold t_M_seasonBy_0
  refine mt_copyR hC h h0 (fun J hJ j0 hj => ?_)
  exact l_mplay hC hd days 0 (sd, B 29) _ (hJ.trans (ro_46 J (by omega) sd)) ⟨j0, rfl, hj⟩ hC.rv (by omega) (fun K hK sK => hq K hK sK.1 sK.2.2)
theorem ra_howOften {k : Nat} (hk : k ≤ 2) (hr : agr (I 31) r) (hq : Q (.inl (some (.int (r (26 + k))))) I T) : ev E 184 0 [some (.ref 30), some (.int (nI k))] [] I T Q := by
  refine s_Coach_howOften_30_0 ?_
  unfold t_Coach_howOften_30_0 t_Coach_howOften_30_13
  refine q_within _ _ _ ?_
  rw [show wI (nI k) 0 2 = 1 from wI_n (b := 2) hk (by decide)]
  refine bq_f (by decide) ?_
  rw [z26]
  refine ⟨gix (by omega) (by omega), ?_⟩
  rw [nI_clamp (by omega), hr (26 + k) (by omega)]
  exact hq
theorem qs_through (h : ro B I) (hr : agr (I 31) r) (hq : Q (.inl (some (.int (r 28 - B 29 28)))) I T) : ev E 316 0 [some (.ref 0)] [] I T Q := by
  refine s_X_throughInSeason_0 ?_
  unfold t_X_throughInSeason_0
  refine ra_howOften (k := 2) (by decide) hr ?_
  refine q_howOften (k := 2) (by decide) h ?_
  exact hq
theorem qs_isSeason (x y : Int32) (h1 : okW x 1 96 ∧ okW y 0 16 → Q (.inl (some (.int 1))) I T) (h0 : ¬ (okW x 1 96 ∧ okW y 0 16) → Q (.inl (some (.int 0))) I T) : ev E 318 0 [some (.int x), some (.int y)] [] I T Q := by
  refine s_M_isSeason_0 ?_
  unfold t_M_isSeason_0 t_M_isSeason_12 t_M_isSeason_13
  refine q_in _ _ _ ?_
  by_cases c : okW x 1 96
  · rw [wI_t c]
    refine bq_f (by decide) ?_
    refine q_in _ _ _ ?_
    by_cases c2 : okW y 0 16
    · rw [wI_t c2]
      exact bq_f (by decide) ⟨Or.inr rfl, h1 ⟨c, c2⟩⟩
    · rw [wI_f c2]
      exact bq_t rfl ⟨Or.inl rfl, h0 (fun z => c2 z.2)⟩
  · rw [wI_f c]
    exact bq_t rfl ⟨Or.inl rfl, h0 (fun z => c z.1)⟩
theorem okW_1 {x : Int32} {k : Nat} (hk : k < 2 ^ 31) (h : okW x 1 (nI k)) : ∃ j, 1 ≤ j ∧ j ≤ k ∧ x = nI j := by
  have h1 := h.1
  have e1 : (1 : Int32).toInt = 1 := rfl
  have e0 : (0 : Int32).toInt = 0 := rfl
  obtain ⟨j, a, b⟩ := okW_nat hk (x := x) ⟨fun z => h1 (by rw [fa_lt, e1]; rw [fa_lt, e0] at z; omega), h.2⟩
  subst b
  refine ⟨j, ?_, a, rfl⟩
  rw [fa_lt, e1, nI_toInt (by omega)] at h1
  omega
def seaV (B : II) (F S n : Nat) (cd : Nat → Nat × Int32) (sd : Int32) (days w j : Nat) : Int32 := [ssn B F S n cd (nI w) days sd 28 - B 29 28, ssn B F S n cd (nI w) days sd 27 - B 29 27, ssn B F S n cd (nI w) days sd 26 - B 29 26].getD j (bits (ssn B F S n cd (nI w) days sd) F)
theorem xq_season (hA : InvA B F S n cd) (hT : TG T) (sd : Int32) {days w j : Nat} (c2 : okW (nI days) 1 96) (hd : days ≤ 96) (c3 : okW (nI w) 0 16) (hj : j ≤ 3) (hq : ∀ J, ro B J → Q (.inl (some (.int (seaV B F S n cd sd days w j)))) J T) : ev E 312 0 [some (.ref 0), some (.int sd), some (.int (nI days)), some (.int (nI w)), some (.int (nI j))] [] B T Q := by
  have hC := hA.1
  refine s_X_season_0 ?_
  unfold t_X_season_0 t_X_season_18 t_X_season_19
  refine q_within _ _ _ ?_
  rw [wI_t c2]
  refine bq_f (by decide) ?_
  refine q_within _ _ _ ?_
  rw [wI_t c3]
  refine bq_f (by decide) ?_
  refine q_within _ _ _ ?_
  rw [show wI (nI j) 0 3 = 1 from wI_n (b := 3) hj (by decide)]
  refine bq_f (by decide) ?_
  refine q_need hT _ (fun _ => ?_) (fun q => absurd q (by decide))
  refine qs_play hC (ro.refl B) hd sd (fun J hJ hr => ?_)
  have z := hq J hJ
  match j, hj with
  | 0, _ => exact ev_fg [true, false, false, false, false] rfl (s_X_season_27 (qs_through hJ hr z))
  | 1, _ => exact ev_fg [true, false, false, false, false] rfl (s_X_season_30 (ra_howOften (k := 1) (by decide) hr (q_howOften (k := 1) (by decide) hJ z)))
  | 2, _ => exact ev_fg [true, false, false, false, false] rfl (s_X_season_40 (ra_howOften (k := 0) (by decide) hr (q_howOften (k := 0) (by decide) hJ z)))
  | 3, _ => exact ev_fg [true, false, false, false, false] rfl (s_X_season_50 (ra_bits hC hJ hr z))
theorem xq_season_b (hT : TG T) {a1 a2 a3 a4 : Int32} (c : ¬ (okW a2 1 96 ∧ okW a3 0 16 ∧ okW a4 0 3)) (hq : Q (.inr 1) (m_up B 0 15 (B 0 15 + 1)) (TX T)) : ev E 312 0 [some (.ref 0), some (.int a1), some (.int a2), some (.int a3), some (.int a4)] [] B T Q := by
  refine s_X_season_0 ?_
  unfold t_X_season_0 t_X_season_18 t_X_season_19
  have fin : ev E 28 0 [some (.ref 0), some (.int 0)] [] B T (KV (fun I1 T1 => ev E 313 0 [some (.ref 0), some (.int a1), some (.int a2), some (.int a3), none] [] I1 T1 (KV (fun I2 T2 => ev E 312 (m_tsw 0 2 [27, 30, 40] 50 a4) [some (.ref 0), some (.int a1), some (.int a2), some (.int a3), some (.int a4)] [] I2 T2 Q) (fun x I1 T1 => Q (.inr x) I1 T1))) (fun x I1 T1 => Q (.inr x) I1 T1)) := q_need hT _ (fun q => absurd rfl q) (fun _ => hq)
  refine q_within _ _ _ ?_
  by_cases c2 : okW a2 1 96
  · rw [wI_t c2]
    refine bq_f (by decide) ?_
    refine q_within _ _ _ ?_
    by_cases c3 : okW a3 0 16
    · rw [wI_t c3]
      refine bq_f (by decide) ?_
      refine q_within _ _ _ ?_
      rw [wI_f (fun c4 => c ⟨c2, c3, c4⟩)]
      exact bq_t rfl fin
    · rw [wI_f c3]
      exact bq_t rfl fin
  · rw [wI_f c2]
    exact bq_t rfl fin
theorem mq_season (hC : Core B F S n cd) (h : ro B I) (sd : Int32) {days w j : Nat} (c2 : okW (nI days) 1 96) (hd : days ≤ 96) (c3 : okW (nI w) 0 16) (hj : j ≤ 3) (hq : ∀ J, ro B J → J 46 0 = 0 → Q (.inl (some (.int (seaV B F S n cd sd days w j)))) J T) : ev E 317 0 [some (.ref 46), some (.int sd), some (.int (nI days)), some (.int (nI w)), some (.int (nI j))] [] I T Q := by
  have hI : ro B (m_up I 46 0 0) := h.trans (ro_thrown I 0)
  refine s_M_season_0 ?_
  unfold t_M_season_0 t_M_season_13 t_M_season_16 t_M_season_48
  refine qs_isSeason _ _ (fun _ => ?_) (fun z => absurd ⟨c2, c3⟩ z)
  refine bq_f (by decide) ?_
  refine q_in _ _ _ ?_
  rw [show wI (nI j) 0 3 = 1 from wI_n (b := 3) hj (by decide)]
  refine bq_f (by decide) ?_
  refine qm_bad0 rfl _ _ ?_
  refine bq_t rfl ?_
  refine qs_mplay hC hI rfl hd sd (fun J hJ j0 hR => ?_)
  have z := hq J hJ j0
  have e508 : J 508 = B 508 := hJ.cell (c := 508) (by decide)
  obtain ⟨t1, t2, t3, t4⟩ := hC.2.2.2.2.2.2.1
  obtain ⟨r1, r2, r3, r4⟩ := hR
  match j, hj with
  | 0, _ =>
    refine bq_f (by decide) ⟨⟨by decide, by decide⟩, ⟨by decide, by decide⟩, ?_⟩
    rw [e508]
    show Q (.inl (some (.int (J 509 26 - B 508 26)))) J T
    rw [r2, t2]; exact z
  | 1, _ =>
    refine bq_f (by decide) ⟨⟨by decide, by decide⟩, ⟨by decide, by decide⟩, ?_⟩
    rw [e508]
    show Q (.inl (some (.int (J 509 27 - B 508 27)))) J T
    rw [r3, t3]; exact z
  | 2, _ =>
    refine bq_f (by decide) ⟨⟨by decide, by decide⟩, ⟨by decide, by decide⟩, ?_⟩
    rw [e508]
    show Q (.inl (some (.int (J 509 28 - B 508 28)))) J T
    rw [r4, t4]; exact z
  | 3, _ => exact bq_t rfl (mt_bits hC hJ ⟨r1, r2, r3, r4⟩ z)
theorem mq_season_b {a1 a2 a3 a4 : Int32} (c : ¬ (okW a2 1 96 ∧ okW a3 0 16 ∧ okW a4 0 3)) (hq : ∀ v J, ro (m_up I 48 1 (I 48 1 + 1)) J → J 46 0 = 1 → Q (.inl (some (.int v))) J T) : ev E 317 0 [some (.ref 46), some (.int a1), some (.int a2), some (.int a3), some (.int a4)] [] I T Q := by
  refine s_M_season_0 ?_
  unfold t_M_season_0 t_M_season_13 t_M_season_16 t_M_season_48
  refine qs_isSeason _ _ (fun z => ?_) (fun z => ?_)
  · refine bq_f (by decide) ?_
    refine q_in _ _ _ ?_
    rw [wI_f (fun c4 => c ⟨z.1, z.2, c4⟩)]
    refine bq_t rfl ?_
    refine qm_bad1 (j := 1) rfl (by decide) (by decide) ?_
    refine bq_f (by decide) ?_
    exact hq _ _ (ro_bad I _ _) rfl
  · refine bq_t rfl ?_
    refine qm_bad1 (j := 1) rfl (by decide) (by decide) ?_
    refine bq_f (by decide) ?_
    exact hq _ _ (ro_bad I _ _) rfl
theorem o_season : op_ok Inv E t_W_main_1345 := by
  intro I T Q i m hI hT hm hi hL hn
  have hG := TI_g hT hm
  obtain ⟨F, S, n, cd, hA⟩ := hI
  unfold t_W_main_1345
  generalize E.2.2 (nI i + 1).toNatClampNeg = a1
  generalize E.2.2 (nI i + 2).toNatClampNeg = a2
  generalize E.2.2 (nI i + 3).toNatClampNeg = a3
  generalize E.2.2 (nI i + 4).toNatClampNeg = a4
  refine ⟨gsc 1 hi hL (by decide), gsc 2 hi hL (by decide), gsc 3 hi hL (by decide), gsc 4 hi hL (by decide), ?_⟩
  refine s_W_season_0 ?_
  unfold t_W_season_0 t_W_season_12
  by_cases c : okW a2 1 96 ∧ okW a3 0 16 ∧ okW a4 0 3
  · obtain ⟨c2, c3, c4⟩ := c
    obtain ⟨days, d1, d2, rfl⟩ := okW_1 (k := 96) (by decide) c2
    obtain ⟨w, w1, rfl⟩ := okW_nat (k := 16) (by decide) c3
    obtain ⟨j, hj, rfl⟩ := okW_nat (k := 3) (by decide) c4
    refine xq_season hA hG a1 c2 d2 c3 hj (fun J hJ => ?_)
    exact ⟨gsc 1 hi hL (by decide), gsc 2 hi hL (by decide), gsc 3 hi hL (by decide), gsc 4 hi hL (by decide), mq_season hA.1 hJ a1 c2 d2 c3 hj (fun K hK h0 => fin_ok h0 (fun _ => rfl) (hn K _ ⟨F, S, n, cd, hA.ro hK⟩ (TI_s hT)))⟩
  · refine xq_season_b hG c ?_
    refine ⟨rfl, ?_⟩
    exact ⟨gsc 1 hi hL (by decide), gsc 2 hi hL (by decide), gsc 3 hi hL (by decide), gsc 4 hi hL (by decide), mq_season_b c (fun v J hJ h0 => fin_ok h0 (fun q => absurd q (by decide)) (hn J _ (Inv_thr (x := 1) (by decide) ⟨F, S, n, cd, hA⟩ rfl (ro.refl _) hJ) (TI_x hT)))⟩
end SSN
