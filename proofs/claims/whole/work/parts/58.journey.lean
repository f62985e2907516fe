/-! ===== rows that agree; journey, waits, swap ===== -/
def agr (a b : Nat → Int32) : Prop := ∀ j, j < 29 → a j = b j
theorem agr.upd {a b : Nat → Int32} (h : agr a b) (i : Nat) (x : Int32) : agr (upd a i x) (upd b i x) := fun j hj => by
  by_cases e : j = i
  · subst e; rw [upd_at, upd_at]
  · rw [upd_ne e, upd_ne e]; exact h j hj
theorem rep_rel {α β : Type} {R : α → β → Prop} {s : Nat → α → α} {t : Nat → β → β} : ∀ (d f : Nat) (a : α) (b : β), (∀ g a b, f ≤ g → g < f + d → R a b → R (s g a) (t g b)) → R a b → R (rep s d f a) (rep t d f b)
  | 0, _, _, _, _, h => h
  | d + 1, f, a, b, hs, h => by
    rw [rep, rep]
    exact rep_rel d (f + 1) _ _ (fun g a b h1 h2 => hs g a b (by omega) (by omega)) (hs f a b (Nat.le_refl _) (by omega) h)
theorem agr_tire {a b : Nat → Int32} (h : agr a b) {F : Nat} (hF : F ≤ 8) (m : Int32) : agr (rep (tireC m) F 0 a) (rep (tireC m) F 0 b) :=
  rep_rel (R := agr) F 0 a b (fun g a b _ hg h => by
    show agr (tireC m g a) (tireC m g b)
    unfold tireC
    rw [h g (by omega), h (16 + g) (by omega)]
    by_cases c : b g = -1
    · rw [if_pos c, if_pos c]; exact h
    · rw [if_neg c, if_neg c]; exact h.upd _ _) h
theorem agr_spill {a b : Nat → Int32} (h : agr a b) {F : Nat} (hF : F ≤ 8) : agr (rep spillC F 0 a) (rep spillC F 0 b) :=
  rep_rel (R := agr) F 0 a b (fun g a b _ hg h => by
    show agr (spillC g a) (spillC g b)
    unfold spillC
    rw [h g (by omega), h (8 + g) (by omega)]
    by_cases c : b g = -1
    · rw [if_pos c, if_pos c]; exact h
    · rw [if_neg c, if_neg c]
      by_cases c2 : p0 (b (8 + g) - 3) = 0
      · rw [if_pos c2, if_pos c2]; exact (h.upd _ _).upd _ _
      · rw [if_neg c2, if_neg c2]; exact h.upd _ _) h
theorem agr_drive {a b : Nat → Int32} (h : agr a b) {F : Nat} (hF : F ≤ 8) (len turn bears st tilt : Int32) : agr (driveC len turn bears st tilt F a) (driveC len turn bears st tilt F b) := by
  have hk := outN_lt len turn bears st tilt
  unfold driveC
  generalize outN len turn bears st tilt = k at hk ⊢
  have ht : ∀ a b, agr a b → agr (tally k a) (tally k b) := fun a b h => by
    unfold tally
    rw [h (26 + k) (by omega)]
    exact h.upd _ _
  refine ht _ _ ?_
  match k, hk with
  | 0, _ => rw [if_pos rfl, if_pos rfl]; exact agr_tire h hF 2
  | 1, _ => rw [if_neg (by decide), if_pos rfl, if_neg (by decide), if_pos rfl]; exact agr_spill (agr_tire h hF 5) hF
  | 2, _ =>
    rw [if_neg (by decide), if_neg (by decide), if_neg (by decide), if_neg (by decide)]
    unfold thruC
    have h2 := agr_tire h hF (slowC len st + 1 + turn / 3)
    rw [h2 25 (by omega)]
    exact h2.upd _ _
theorem agr_rest {a b : Nat → Int32} (h : agr a b) {F : Nat} (hF : F ≤ 8) (calm : Nat → Int32) : agr (restC calm F a) (restC calm F b) := by
  unfold restC
  have h2 : agr (rep (rsC calm) F 0 a) (rep (rsC calm) F 0 b) := rep_rel (R := agr) F 0 a b (fun g a b _ hg h => by
    show agr (rsC calm g a) (rsC calm g b)
    unfold rsC easeC
    rw [h g (by omega), h (16 + g) (by omega)]
    exact h.upd _ _) h
  rw [h2 24 (by omega)]
  exact h2.upd _ _
theorem agr.lo {a b : Nat → Int32} (h : agr a b) : ∀ j, j < 26 → a j = b j := fun j hj => h j (by omega)
section JRN
variable {E : MEnv} {B I : II} {T : TT} {Q : QQ} {F S n : Nat} {cd : Nat → Nat × Int32} {r q : Nat → Int32}
theorem stR_agr (hF : F ≤ 8) {a b : Nat → Int32} (h : agr a b) : stR B F n cd a = stR B F n cd b := by unfold stR; rw [sidesR_congr hF h.lo]
theorem tlR_agr (hF : F ≤ 8) {a b : Nat → Int32} (h : agr a b) : tlR B F n cd a = tlR B F n cd b := by unfold tlR; rw [sidesR_congr hF h.lo]
theorem outR_agr (hF : F ≤ 8) {a b : Nat → Int32} (h : agr a b) (s : Nat) : outR B F n cd a s = outR B F n cd b s := by unfold outR; rw [stR_agr hF h, tlR_agr hF h]
theorem drvR_agr (hF : F ≤ 8) {a b : Nat → Int32} (h : agr a b) (s : Nat) : agr (drvR B F n cd a s) (drvR B F n cd b s) := by unfold drvR; rw [stR_agr hF h, tlR_agr hF h]; exact agr_drive h hF _ _ _ _ _
theorem ra_copy (h : ro B I) (hq : ∀ J, ro B J → agr (J 31) (B 29) → Q (.inl none) J T) : ev E 212 0 [some (.ref 30), some (.ref 28)] [] I T Q := qt_copy h hq
theorem ra_canDrive (hC : Core B F S n cd) (h : ro B I) (hr : agr (I 31) r) (hq : Q (.inl (some (.int (canD r F S)))) I T) : ev E 114 0 [some (.ref 30)] [] I T Q := by
  refine qt_canDrive hC h rfl ?_
  rw [canD_congr hC.F8 hr.lo]; exact hq
theorem ra_behind (hr : agr (I 31) r) (hq : Q (.inl (some (.int (r 25)))) I T) : ev E 115 0 [some (.ref 30)] [] I T Q := by
  refine qt_behind rfl ?_
  rw [hr 25 (by omega)]; exact hq
theorem ra_bits (hC : Core B F S n cd) (h : ro B I) (hr : agr (I 31) r) (hq : Q (.inl (some (.int (bits r F)))) I T) : ev E 112 0 [some (.ref 30), none, none] [] I T Q := by
  have h8 := hC.F8
  refine qt_bits hC h rfl ?_
  rw [bits_congr (fun f hf => hr f (by omega))]; exact hq
theorem ra_tired (hC : Core B F S n cd) (h : ro B I) (hr : agr (I 31) r) {f : Nat} (hf : f < F) (hq : Q (.inl (some (.int (r (16 + f))))) I T) : ev E 127 0 [some (.ref 30), some (.int (nI f))] [] I T Q := by
  have h8 := hC.F8
  refine qt_tired hC h rfl hf ?_
  rw [hr (16 + f) (by omega)]; exact hq
theorem ra_has (hC : Core B F S n cd) (h : ro B I) (hr : agr (I 31) r) {f : Nat} (hf : f < F) (hq : Q (.inl (some (.int (if r f = -1 then 0 else 1)))) I T) : ev E 108 0 [some (.ref 30), some (.int (nI f))] [] I T Q := by
  have h8 := hC.F8
  refine qt_has hC h rfl hf ?_
  rw [hr f (by omega)]; exact hq
theorem ra_canPut (hC : Core B F S n cd) (h : ro B I) (hr : agr (I 31) r) {f : Nat} (hf : f < F) (p : Int32) (hq : Q (.inl (some (.int (canP r F (B 6 f) f p)))) I T) : ev E 106 0 [some (.ref 30), some (.int (nI f)), some (.int p)] [] I T Q := by
  refine qt_canPut hC h rfl hf p ?_
  rw [canP_congr hC.F8 hr.lo _ hf]; exact hq
theorem ra_setPlace (hC : Core B F S n cd) (h : ro B I) (hr : agr (I 31) r) {f : Nat} (hf : f < F) (v : Int32) (hq : ∀ J, ro B J → agr (J 31) (upd r f v) → Q (.inl none) J T) : ev E 117 0 [some (.ref 30), some (.int (nI f)), some (.int v)] [] I T Q :=
  qt_setPlace hC h rfl hf v (fun J hJ e => hq J hJ (by rw [e]; exact hr.upd _ _))
theorem ra_takeOut (hC : Core B F S n cd) (h : ro B I) (hr : agr (I 31) r) {f : Nat} (hf : f < F) (hq : ∀ J, ro B J → agr (J 31) (upd r f (-1)) → Q (.inl none) J T) : ev E 118 0 [some (.ref 30), some (.int (nI f))] [] I T Q :=
  qt_takeOut hC h rfl hf (fun J hJ e => hq J hJ (by rw [e]; exact hr.upd _ _))
theorem ra_tilt (hC : Core B F S n cd) (h : ro B I) (hr : agr (I 31) r) (hq : ∀ J, ro B J → agr (J 31) r → Q (.inl (some (.int (tlR B F n cd r)))) J T) : ev E 183 0 [some (.ref 30)] [] I T Q :=
  qt_tilt hC h rfl (fun J hJ e => by rw [tlR_agr hC.F8 hr]; exact hq J hJ (by rw [e]; exact hr))
theorem ra_out (hC : Core B F S n cd) (h : ro B I) (hr : agr (I 31) r) {s : Nat} (hs : s < S) (hq : ∀ J, ro B J → agr (J 31) r → Q (.inl (some (.int (nI (outR B F n cd r s))))) J T) : ev E 209 0 [some (.ref 30), some (.int (nI s))] [] I T Q :=
  qt_out hC h rfl hs (fun J hJ e => by rw [outR_agr hC.F8 hr]; exact hq J hJ (by rw [e]; exact hr))
theorem ra_drive (hC : Core B F S n cd) (h : ro B I) (hr : agr (I 31) r) {s : Nat} (hs : s < S) (hq : ∀ J, ro B J → agr (J 31) (drvR B F n cd r s) → Q (.inl none) J T) : ev E 120 0 [some (.ref 30), some (.int (nI s)), none, none, none] [] I T Q :=
  qt_drive hC h rfl hs (fun J hJ e => hq J hJ (by rw [e]; exact drvR_agr hC.F8 hr s))
theorem ra_rest (hC : Core B F S n cd) (h : ro B I) (hr : agr (I 31) r) (hq : ∀ J, ro B J → agr (J 31) (restC (B 5) F r) → Q (.inl none) J T) : ev E 142 0 [some (.ref 30), none] [] I T Q :=
  qt_rest hC h rfl (fun J hJ e => hq J hJ (by rw [e]; exact agr_rest hr hC.F8 _))
theorem mt_copyR (hC : Core B F S n cd) (h : ro B I) (h0 : I 46 0 = 0) (hq : ∀ J, ro B J → J 46 0 = 0 → rowR (B 29) (J 509) → Q (.inl none) J T) : ev E 147 0 [some (.ref 508), some (.ref 509), none] [] I T Q :=
  mt_copy hC h h0 (fun J hJ j0 e => hq J hJ j0 (rowR_copy hC (fun _ _ => rfl) e))
/-! journey -/
def jrn (B : II) (F S n : Nat) (cd : Nat → Nat × Int32) : Nat → (Nat → Int32) → Nat
  | 0, _ => 0
  | d + 1, r => if canD r F S = 0 then 0 else if outR B F n cd r (r 25).toNatClampNeg = 2 then jrn B F S n cd d (drvR B F n cd r (r 25).toNatClampNeg) + 1 else 0
theorem drv_V (hC : Core B F S n cd) {s : Nat} (hs : s < S) (hV : rowW r F) (h25 : r 25 = nI s) : rowV (drvR B F n cd r s) F S := by
  refine (W_drive hC.F8 hV _ _ _ _ _).v ?_
  have := drive_25 hC.F8 (B 7 s) (B 8 s) (B 3 7) (stR B F n cd r) (tlR B F n cd r) r
  rw [this, h25]
  split
  · exact ⟨s + 1, by omega, nI_1 s⟩
  · exact ⟨s, by omega, rfl⟩
theorem l_xjourney (hC : Core B F S n cd) : ∀ (d c : Nat) (r : Nat → Int32) (I : II), ro B I → agr (I 31) r → rowV r F S → c + d = 6 → (∀ J, ro B J → Q (.inl (some (.int (nI (c + jrn B F S n cd d r))))) J T) → t_X_journey_9 E I T Q (nI c) (nI c)
  | 0, c, r, I, h, hr, hV, hc, hq => by
    unfold t_X_journey_9
    exact bq_t (nI_le (a := 6) (b := c) (by omega) (by omega)) (hq I h)
  | d + 1, c, r, I, h, hr, hV, hc, hq => by
    have h6 := hC.S6
    unfold t_X_journey_9 t_X_journey_24
    refine bq_f (nI_ge (a := c) (b := 6) (by omega) (by omega)) ?_
    refine ra_canDrive hC h hr ?_
    rw [jrn] at hq
    refine ⟨fun q => ?_, fun q => ?_⟩
    · rw [if_pos q] at hq; exact hq I h
    · rw [if_neg q] at hq
      obtain ⟨-, b, hb, e⟩ := canD_lt h6 hV.2.2.2.2 q
      rw [e, nI_clamp (by omega)] at hq
      refine ra_behind hr ?_
      rw [e]
      refine ra_out hC h hr hb (fun J hJ hj => ?_)
      refine ⟨fun q2 => ?_, fun q2 => ?_⟩
      · have q3 : outR B F n cd r b = 2 := (nI_eq (b := 2) (by have := outN_lt (B 7 b) (B 8 b) (B 3 7) (stR B F n cd r) (tlR B F n cd r); unfold outR; omega) (by omega)).mp q2
        rw [if_pos q3] at hq
        refine ra_behind hj ?_
        rw [e]
        refine ra_drive hC hJ hj hb (fun K hK hk => ?_)
        rw [nI_1]
        refine s_X_journey_9 (l_xjourney hC d (c + 1) _ K hK hk (drv_V hC hb hV.w e) (by omega) (fun L hL => ?_))
        have z := hq L hL
        rw [show c + (jrn B F S n cd d (drvR B F n cd r b) + 1) = c + 1 + jrn B F S n cd d (drvR B F n cd r b) by omega] at z
        exact z
      · have q3 : outR B F n cd r b ≠ 2 := fun z => q2 (by rw [z]; rfl)
        rw [if_neg q3] at hq
        exact hq J hJ
theorem xq_journey (hA : InvA B F S n cd) (hq : ∀ J, ro B J → Q (.inl (some (.int (nI (jrn B F S n cd 6 (B 29)))))) J T) : ev E 211 0 [some (.ref 0), none, none] [] B T Q := by
  refine s_X_journey_0 ?_
  unfold t_X_journey_0
  refine ra_copy (ro.refl B) (fun J hJ hj => ?_)
  refine l_xjourney hA.1 6 0 _ J hJ hj hA.1.rv (by omega) (fun K hK => ?_)
  rw [Nat.zero_add]
  exact hq K hK
theorem l_mjourney (hC : Core B F S n cd) : ∀ (d c : Nat) (r : Nat → Int32) (I : II), ro B I → I 46 0 = 0 → rowR r (I 509) → rowV r F S → (∀ b, r 25 = nI b → b < 2 ^ 31 → S ≤ b + d) → (∀ J, ro B J → J 46 0 = 0 → Q (.inl (some (.int (nI (c + jrn B F S n cd d r))))) J T) → t_M_journey_10 E I T Q (nI c)
  | 0, c, r, I, h, h0, hR, hV, hd, hq => by
    have h6 := hC.S6
    unfold t_M_journey_10 t_M_journey_27
    refine mt_canDrive hC h hR ?_
    have : canD r F S = 0 := by
      by_cases q : canD r F S = 0
      · exact q
      · obtain ⟨-, b, hb, e⟩ := canD_lt h6 hV.2.2.2.2 q
        have := hd b e (by omega)
        omega
    rw [this]
    exact bq_t rfl (hq I h h0)
  | d + 1, c, r, I, h, h0, hR, hV, hd, hq => by
    have h6 := hC.S6
    unfold t_M_journey_10 t_M_journey_27
    refine mt_canDrive hC h hR ?_
    rw [jrn] at hq
    refine ⟨fun q => ?_, fun q => ?_⟩
    · rw [if_pos q] at hq; exact hq I h h0
    · rw [if_neg q] at hq
      obtain ⟨-, b, hb, e⟩ := canD_lt h6 hV.2.2.2.2 q
      rw [e, nI_clamp (by omega)] at hq
      rw [hR.1 25 (by omega), e]
      refine mt_driven hC h h0 hV.w hR hb (fun J hJ j0 hj => ?_)
      refine ⟨fun q2 => ?_, fun q2 => ?_⟩
      · have q3 : outR B F n cd r b = 2 := (nI_eq (b := 2) (by have := outN_lt (B 7 b) (B 8 b) (B 3 7) (stR B F n cd r) (tlR B F n cd r); unfold outR; omega) (by omega)).mp q2
        rw [if_pos q3] at hq
        rw [nI_1]
        refine s_M_journey_10 (l_mjourney hC d (c + 1) _ J hJ j0 hj (drv_V hC hb hV.w e) (fun b2 e2 hb2 => ?_) (fun L hL l0 => ?_))
        · have e9 := drive_25 hC.F8 (B 7 b) (B 8 b) (B 3 7) (stR B F n cd r) (tlR B F n cd r) r
          unfold outR at q3
          rw [if_pos q3, e, nI_1] at e9
          unfold drvR at e2
          rw [e9, nI_eq (by omega) hb2] at e2
          have := hd b e (by omega)
          omega
        · have z := hq L hL l0
          rw [show c + (jrn B F S n cd d (drvR B F n cd r b) + 1) = c + 1 + jrn B F S n cd d (drvR B F n cd r b) by omega] at z
          exact z
      · have q3 : outR B F n cd r b ≠ 2 := fun z => q2 (by rw [z]; rfl)
        rw [if_neg q3] at hq
        exact hq J hJ j0
theorem mq_journey (hA : InvA B F S n cd) (h : ro B I) (hq : ∀ J, ro B J → Q (.inl (some (.int (nI (jrn B F S n cd 6 (B 29)))))) J T) : ev E 213 0 [some (.ref 46), none] [] I T Q := by
  have h6 := hA.1.S6
  refine s_M_journey_0 ?_
  unfold t_M_journey_0
  refine mt_copyR hA.1 (h.trans (ro_thrown I 0)) rfl (fun J hJ j0 hj => ?_)
  refine l_mjourney hA.1 6 0 _ J hJ j0 hj hA.1.rv (fun b _ _ => by omega) (fun K hK _ => ?_)
  rw [Nat.zero_add]
  exact hq K hK
theorem o_journey : op_ok Inv E t_W_main_581 := by
  intro I T Q i m hI hT hm hi hL hn
  have hG := TI_g hT hm
  obtain ⟨F, S, n, cd, hA⟩ := hI
  unfold t_W_main_581
  refine xq_journey hA  (fun J hJ => ?_)
  exact mq_journey hA hJ  (fun K hK => bq_t rfl (hn K _ ⟨F, S, n, cd, hA.ro hK⟩ (TI_s hT)))
/-! waits -/
def wts (B : II) (F n : Nat) (cd : Nat → Nat × Int32) (s : Nat) : Nat → Nat → (Nat → Int32) → Int32
  | 0, _, _ => -1
  | d + 1, k, r => if outR B F n cd r s = 2 then nI k else wts B F n cd s d (k + 1) (restC (B 5) F r)
theorem l_xwaits (hC : Core B F S n cd) {s : Nat} (hs : s < S) : ∀ (d k : Nat) (r : Nat → Int32) (I : II), ro B I → agr (I 31) r → r 25 = nI s → k + d = 100 → (∀ J, ro B J → Q (.inl (some (.int (wts B F n cd s d k r)))) J T) → t_X_waits_13 E I T Q (nI k)
  | 0, k, r, I, h, hr, e, hk, hq => by
    unfold t_X_waits_13
    exact bq_t (nI_lt (a := 99) (b := k) (by omega) (by omega)) (hq I h)
  | d + 1, k, r, I, h, hr, e, hk, hq => by
    unfold t_X_waits_13
    refine bq_f (nI_nlt (a := 99) (b := k) (by omega) (by omega)) ?_
    refine ra_behind hr ?_
    rw [e]
    refine ra_out hC h hr hs (fun J hJ hj => ?_)
    rw [wts] at hq
    refine ⟨fun q2 => ?_, fun q2 => ?_⟩
    · have q3 : outR B F n cd r s = 2 := (nI_eq (b := 2) (by have := outN_lt (B 7 s) (B 8 s) (B 3 7) (stR B F n cd r) (tlR B F n cd r); unfold outR; omega) (by omega)).mp q2
      rw [if_pos q3] at hq
      exact hq J hJ
    · have q3 : outR B F n cd r s ≠ 2 := fun z => q2 (by rw [z]; rfl)
      rw [if_neg q3] at hq
      refine ra_rest hC hJ hj (fun K hK hk2 => ?_)
      rw [nI_1]
      exact s_X_waits_13 (l_xwaits hC hs d (k + 1) _ K hK hk2 (by rw [hi_rest (by omega) hC.F8]; exact e) (by omega) hq)
theorem l_mwaits (hC : Core B F S n cd) {s : Nat} (hs : s < S) (hcd : canD (B 29) F S ≠ 0) : ∀ (d k : Nat) (r : Nat → Int32) (I : II), ro B I → I 46 0 = 0 → rowR r (I 509) → rowW r F → r 25 = nI s → k + d = 100 → (∀ J, ro B J → Q (.inl (some (.int (wts B F n cd s d k r)))) J T) → t_M_waits_10 E I T Q (nI k)
  | 0, k, r, I, h, h0, hR, hW, e, hk, hq => by
    unfold t_M_waits_10 t_M_waits_43
    exact bq_t (nI_lt (a := 99) (b := k) (by omega) (by omega)) (hq I h)
  | d + 1, k, r, I, h, h0, hR, hW, e, hk, hq => by
    unfold t_M_waits_10
    refine bq_f (nI_nlt (a := 99) (b := k) (by omega) (by omega)) ?_
    refine qm_canDrive hC h ?_
    refine bq_f hcd ?_
    rw [hR.1 25 (by omega), e]
    refine mt_pulls hC h h0 hW hR (fun J hJ j0 ej => ?_)
    refine mt_tilt hC hJ j0 hW (by rw [ej]; exact hR) (fun K hK k0 ek => ?_)
    refine qm_comesBy hC hK hs _ _ ?_
    rw [outc_N]
    rw [wts] at hq
    refine ⟨fun q2 => ?_, fun q2 => ?_⟩
    · have q3 : outR B F n cd r s = 2 := (nI_eq (b := 2) (by have := outN_lt (B 7 s) (B 8 s) (B 3 7) (stR B F n cd r) (tlR B F n cd r); unfold outR; omega) (by omega)).mp q2
      rw [if_pos q3] at hq
      exact hq K hK
    · have q3 : outR B F n cd r s ≠ 2 := fun z => q2 (by unfold outR at z; rw [z]; rfl)
      rw [if_neg q3] at hq
      refine mt_rests hC hK k0 hW (by rw [ek, ej]; exact hR) (fun L hL l0 hl => ?_)
      rw [nI_1]
      exact s_M_waits_10 (l_mwaits hC hs hcd d (k + 1) _ L hL l0 hl (W_rest hC.F8 hW _) (by rw [hi_rest (by omega) hC.F8]; exact e) (by omega) hq)
def wtV (B : II) (F S n : Nat) (cd : Nat → Nat × Int32) : Int32 := if canD (B 29) F S = 0 then -1 else wts B F n cd (B 29 25).toNatClampNeg 100 0 (B 29)
theorem xq_waits (hA : InvA B F S n cd) (hq : ∀ J, ro B J → Q (.inl (some (.int (wtV B F S n cd)))) J T) : ev E 214 0 [some (.ref 0), none] [] B T Q := by
  have h6 := hA.1.S6
  refine s_X_waits_0 ?_
  unfold t_X_waits_0
  refine q_canDrive hA.1 (ro.refl B) ?_
  unfold wtV at hq
  refine ⟨fun q => ?_, fun q => ?_⟩
  · rw [if_pos q] at hq; exact hq B (ro.refl B)
  · rw [if_neg q] at hq
    obtain ⟨-, b, hb, e⟩ := canD_lt h6 hA.1.rv.2.2.2.2 q
    rw [e, nI_clamp (by omega)] at hq
    refine ra_copy (ro.refl B) (fun J hJ hj => ?_)
    exact l_xwaits hA.1 hb 100 0 _ J hJ hj e (by omega) hq
theorem mq_waits (hA : InvA B F S n cd) (h : ro B I) (hq : ∀ J, ro B J → Q (.inl (some (.int (wtV B F S n cd)))) J T) : ev E 215 0 [some (.ref 46), none] [] I T Q := by
  have h6 := hA.1.S6
  refine s_M_waits_0 ?_
  unfold t_M_waits_0
  refine mt_copyR hA.1 (h.trans (ro_thrown I 0)) rfl (fun J hJ j0 hj => ?_)
  unfold wtV at hq
  by_cases q : canD (B 29) F S = 0
  · rw [if_pos q] at hq
    show t_M_waits_10 E J T Q (nI 0)
    unfold t_M_waits_10 t_M_waits_43
    refine bq_f (by decide) ?_
    refine qm_canDrive hA.1 hJ ?_
    exact bq_t q (hq J hJ)
  · rw [if_neg q] at hq
    obtain ⟨-, b, hb, e⟩ := canD_lt h6 hA.1.rv.2.2.2.2 q
    rw [e, nI_clamp (by omega)] at hq
    exact l_mwaits hA.1 hb q 100 0 _ J hJ j0 hj hA.1.rv.w e (by omega) hq
theorem o_waits : op_ok Inv E t_W_main_588 := by
  intro I T Q i m hI hT hm hi hL hn
  have hG := TI_g hT hm
  obtain ⟨F, S, n, cd, hA⟩ := hI
  unfold t_W_main_588
  refine xq_waits hA  (fun J hJ => ?_)
  exact mq_waits hA hJ  (fun K hK => bq_t rfl (hn K _ ⟨F, S, n, cd, hA.ro hK⟩ (TI_s hT)))
end JRN
