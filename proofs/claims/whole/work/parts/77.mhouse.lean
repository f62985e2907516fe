/-! ===== house: the reference's reader ===== -/
def fg (I J : II) : Prop := (∀ c, c ≠ 46 → c ≠ 49 → c ≠ 83 → ¬ (52 ≤ c ∧ c < 60) → ¬ (70 ≤ c ∧ c < 76) → J c = I c) ∧ ∀ j, j ≠ 4 → j ≠ 5 → j ≠ 6 → J 46 j = I 46 j
theorem fg.refl (I : II) : fg I I := ⟨fun _ _ _ _ _ _ => rfl, fun _ _ _ _ => rfl⟩
theorem fg.trans {I J K : II} (h : fg I J) (k : fg J K) : fg I K := ⟨fun c a b d e f => (k.1 c a b d e f).trans (h.1 c a b d e f), fun j a b c => (k.2 j a b c).trans (h.2 j a b c)⟩
theorem fm.fg {I J : II} (h : fm I J) : fg I J := ⟨fun c h1 _ _ _ _ => h.1 c (by simpa using h1), h.2⟩
theorem fg_up {I : II} {c j : Nat} (hc : c = 49 ∨ c = 83 ∨ (52 ≤ c ∧ c < 60) ∨ (70 ≤ c ∧ c < 76)) (v : Int32) : fg I (m_up I c j v) := ⟨fun d _ _ _ _ _ => m_up_ne (by omega), fun j _ _ _ => by rw [m_up_ne (by omega)]⟩
section MHOUSE
variable {E : MEnv} {B I : II} {T : TT} {Q : QQ} {N : Nat} {w : Nat → Nat}
theorem fM_up {J : II} {k q c j : Nat} {v : Int32} (hc : c ≠ 46) (hc2 : c ≠ 47) (h : fM J N w k q) : fM (m_up J c j v) N w k q := by
  unfold fM mB at h ⊢
  rw [m_up_ne (Ne.symm hc), m_up_ne (Ne.symm hc2)]
  exact h
theorem tM_7 {J : II} {p j : Nat} {v : Int32} (hj : 7 ≤ j) (h : tM J N w p) : tM (m_up J 46 j v) N w p := by
  unfold tM mB at h ⊢
  rw [m_up_ne (show (47 : Nat) ≠ 46 by decide), m_up_at, if_neg (by omega), m_up_at, if_neg (by omega), m_up_at, if_neg (by omega), m_up_at, if_neg (by omega), m_up_at, if_neg (by omega)]
  exact h
theorem wd_bl {p : Nat} (hp : p ≤ N) : wd N w (bl N w p) = wd N w p := by unfold wd; rw [bl_bl hp]
theorem qn_isW {a b c d e f p : Nat} (hs : a ≤ 26 ∧ b ≤ 26 ∧ c ≤ 26 ∧ d ≤ 26 ∧ e ≤ 26 ∧ f ≤ 26) {t : List Nat} (ht : sixV a b c d e f = er t) (hl : t.length ≤ 6) (htl : ∀ x, x ∈ t → 97 ≤ x ∧ x ≤ 122) (h : tM I N w p) (h1 : wd N w p = t → Q (.inl (some (.int 1))) (m_up I 46 4 (nI (bl N w p))) T) (h0 : wd N w p ≠ t → Q (.inl (some (.int 0))) (m_up I 46 4 (nI (bl N w p))) T) : ev E 67 0 [some (.ref 46), some (.int (nI a)), some (.int (nI b)), some (.int (nI c)), some (.int (nI d)), some (.int (nI e)), some (.int (nI f))] [] (m_up I 46 4 (nI (bl N w p))) T Q := by
  have tb := tM_at h (bl_le (w := w) h.2.1).2
  refine qn_isWord hs ht hl htl tb (fun y => ?_) (fun y => ?_)
  · rw [wd_bl h.2.1] at y
    rw [up_up, bl_bl h.2.1]
    exact h1 y
  · rw [wd_bl h.2.1] at y
    rw [up_up, bl_bl h.2.1]
    exact h0 y
theorem qn_kind {p : Nat} (h : tM I N w p) (h1 : ∀ i, kx W3 (wd N w p) 0 = some i → Q (.inl (some (.int (nI i)))) (m_up I 46 4 (nI (bl N w p))) T) (h0 : kx W3 (wd N w p) 0 = none → Q (.inl (some (.int (-1)))) (m_up I 46 4 (nI (bl N w p))) T) : ev E 63 0 [some (.ref 46)] [] I T Q := by
  refine s_M_kindHere_0 ?_
  unfold t_M_kindHere_0 t_M_kindHere_47
  refine qn_six (a := 6) (b := 5) (c := 5) (d := 12) (e := 9) (f := 14) (by omega) ?_
  refine qn_isSeven (g := 7) (t := [110, 105, 108, 101, 101, 102]) h (by decide) rfl (by decide) (by omega) (fun y => ?_) (fun y => ?_)
  · have y2 : wd N w p = [103, 110, 105, 108, 101, 101, 102] := y
    exact bq_f (by decide) (h1 0 (by rw [W3, kx, if_pos y2]))
  · have y2 : wd N w p ≠ [103, 110, 105, 108, 101, 101, 102] := y
    refine bq_t rfl ?_
    refine qn_isW (a := 3) (b := 12) (c := 1) (d := 19) (e := 8) (f := 0) (t := [104, 115, 97, 108, 99]) (by omega) (by decide) (by decide) (by decide) h (fun z => ?_) (fun z => ?_)
    · exact bq_f (by decide) (h1 1 (by rw [W3, kx, if_neg y2, kx, if_pos z]))
    · refine bq_t rfl ?_
      refine qn_isW (a := 19) (b := 20) (c := 1) (d := 7) (e := 5) (f := 0) (t := [101, 103, 97, 116, 115]) (by omega) (by decide) (by decide) (by decide) h (fun u => ?_) (fun u => ?_)
      · exact bq_f (by decide) (h1 2 (by rw [W3, kx, if_neg y2, kx, if_neg z, kx, if_pos u]))
      · refine bq_t rfl ?_
        refine qn_isW (a := 2) (b := 5) (c := 1) (d := 18) (e := 19) (f := 0) (t := [115, 114, 97, 101, 98]) (by omega) (by decide) (by decide) (by decide) h (fun v => ?_) (fun v => ?_)
        · exact bq_f (by decide) (h1 3 (by rw [W3, kx, if_neg y2, kx, if_neg z, kx, if_neg u, kx, if_pos v]))
        · exact bq_t rfl (h0 (by rw [W3, kx, if_neg y2, kx, if_neg z, kx, if_neg u, kx, if_neg v, kx]))
theorem z02 : ((0 : Int32) / 2).toNatClampNeg = 0 := by decide
theorem z22 : ((2 : Int32) / 2).toNatClampNeg = 1 := by decide
theorem qn_c123_f {J : II} {i k q : Nat} (hi : i < 4) (g : fM J N w k q) (hq : ∀ K, fg J K → fM K N w k q → Q (.inl none) K T) : t_M_clause_123 E J T Q (nI i) := by
  unfold t_M_clause_123 t_M_clause_131 t_M_clause_144 t_M_clause_146
  refine qn_sign_f _ g ?_
  match i, hi with
  | 0, _ => exact bq_t rfl ⟨by decide, bq_f (fM_ne g) ⟨by decide, hq _ (fg_up (by omega) _) (fM_up (by decide) (by decide) g)⟩⟩
  | 1, _ => exact bq_f (by decide) (bq_f (by decide) (hq _ (fg.refl _) g))
  | 2, _ => exact bq_f (by decide) (bq_t rfl ⟨by decide, bq_f (fM_ne g) ⟨by decide, hq _ (fg_up (by omega) _) (fM_up (by decide) (by decide) g)⟩⟩)
  | 3, _ => exact bq_f (by decide) (bq_f (by decide) (hq _ (fg.refl _) g))
/-- the end of a clause -/
def ec (i : Nat) (J : II) : II := if i = 0 then m_up J 49 0 (J 49 0 + 1) else if i = 2 then m_up J 49 1 (J 49 1 + 1) else J
theorem qn_c123_t {J : II} {i p : Nat} (hi : i < 4) (t : tM J N w p) (h1 : ∀ p2, sgnR N w p 59 = .inr ((), p2) → ∀ K, fm J K → tM K N w p2 → Q (.inl none) (ec i K) T) (h0 : ∀ k q, sgnR N w p 59 = .inl (k, q) → ∀ K, fg J K → fM K N w k q → Q (.inl none) K T) : t_M_clause_123 E J T Q (nI i) := by
  unfold t_M_clause_123 t_M_clause_131 t_M_clause_144 t_M_clause_146
  refine qn_sign_t (c := 59) (by omega) t (fun p2 e2 K f2 t2 => ?_) (fun k q e2 K f2 g2 => ?_)
  · match i, hi with
    | 0, _ =>
      refine bq_t rfl ⟨by decide, bq_t t2.2.2.2.1 ⟨by decide, ?_⟩⟩
      show Q (.inl none) (m_up K 49 ((0 : Int32) / 2).toNatClampNeg (K 49 ((0 : Int32) / 2).toNatClampNeg + 1)) T
      rw [z02]
      exact h1 p2 e2 K f2 t2
    | 1, _ => exact bq_f (by decide) (bq_f (by decide) (h1 p2 e2 K f2 t2))
    | 2, _ =>
      refine bq_f (by decide) (bq_t rfl ⟨by decide, bq_t t2.2.2.2.1 ⟨by decide, ?_⟩⟩)
      show Q (.inl none) (m_up K 49 ((2 : Int32) / 2).toNatClampNeg (K 49 ((2 : Int32) / 2).toNatClampNeg + 1)) T
      rw [z22]
      exact h1 p2 e2 K f2 t2
    | 3, _ => exact bq_f (by decide) (bq_f (by decide) (h1 p2 e2 K f2 t2))
  · match i, hi with
    | 0, _ => exact bq_t rfl ⟨by decide, bq_f (fM_ne g2) ⟨by decide, h0 k q e2 _ (f2.fg.trans (fg_up (by omega) _)) (fM_up (by decide) (by decide) g2)⟩⟩
    | 1, _ => exact bq_f (by decide) (bq_f (by decide) (h0 k q e2 _ f2.fg g2))
    | 2, _ => exact bq_f (by decide) (bq_t rfl ⟨by decide, bq_f (fM_ne g2) ⟨by decide, h0 k q e2 _ (f2.fg.trans (fg_up (by omega) _)) (fM_up (by decide) (by decide) g2)⟩⟩)
    | 3, _ => exact bq_f (by decide) (bq_f (by decide) (h0 k q e2 _ f2.fg g2))
/-- a clause's rest: fine, or a fault -/
def okB (Q : QQ) (T : TT) (N : Nat) (w : Nat → Nat) (σ : HS) (i p : Nat) (J : II) : Prop := ∀ σ' p1 p2, bodR N w σ i p = .inr (σ', p1) → sgnR N w p1 59 = .inr ((), p2) → HV σ' → ∀ K, fg J K → tM K N w p2 → hsM K σ' → Q (.inl none) K T
def noB (Q : QQ) (T : TT) (N : Nat) (w : Nat → Nat) (σ : HS) (i p : Nat) (J : II) : Prop := ∀ k q, (bodR N w σ i p = .inl (k, q) ∨ ∃ σ' p1, bodR N w σ i p = .inr (σ', p1) ∧ sgnR N w p1 59 = .inl (k, q)) → ∀ K, fg J K → fM K N w k q → Q (.inl none) K T
theorem qn_c83_0 {J : II} (h : t_M_clause_123 E J T Q 0) : t_M_clause_78 E J T Q 0 := by
  unfold t_M_clause_78 t_M_clause_83 t_M_clause_112
  exact bq_f (by decide) (bq_f (by decide) (bq_f (by decide) h))
theorem qn_b0 {J : II} {p : Nat} {σ : HS} (hv : HV σ) (hF : σ.1.1 < 8) (t : tM J N w p) (hs : hsM J σ) (h1 : okB Q T N w σ 0 p J) (h0 : noB Q T N w σ 0 p J) : (¬ (J 49 0) < 0 ∧ (J 49 0).toNatClampNeg < 8) ∧ (ev E 71 0 [some (.ref 46), some (.int 1), some (.int 20), none, none] [] J T (KI (fun v3 I3 T3 => (¬ ((m_up I3 (52 + (J 49 0).toNatClampNeg) 0 v3) 49 0) < 0 ∧ ((m_up I3 (52 + (J 49 0).toNatClampNeg) 0 v3) 49 0).toNatClampNeg < 8) ∧ (ev E 71 0 [some (.ref 46), some (.int 0), some (.int 9), none, none] [] (m_up I3 (52 + (J 49 0).toNatClampNeg) 0 v3) T3 (KI (fun v5 I5 T5 => t_M_clause_78 E (m_up I5 (52 + ((m_up I3 (52 + (J 49 0).toNatClampNeg) 0 v3) 49 0).toNatClampNeg) 1 v5) T5 Q 0) (fun x I1 T1 => Q (.inr x) I1 T1)))) (fun x I1 T1 => Q (.inr x) I1 T1))) := by
  have eb : bodR N w σ 0 p = mapR (twR N w p 1 21 0 10) (fun x => s0 σ x.1 x.2) := if_pos rfl
  rw [hs.1, nI_clamp (by omega)]
  refine ⟨⟨nI_pos (by omega), hF⟩, ?_⟩
  have k49 : ∀ {K : II} (v : Int32), K 49 0 = nI σ.1.1 → (m_up K (52 + σ.1.1) 0 v) 49 0 = nI σ.1.1 := fun v e => by rw [m_up_ne (by omega)]; exact e
  refine qn_num_t (lo := 1) (hi := 21) (by omega) (by omega) t (fun x p1 e1 K1 f1 t1 => ?_) (fun k q e1 K1 f1 g1 => ?_)
  · have c1 : K1 49 0 = nI σ.1.1 := by rw [f1.1 49 (by decide)]; exact hs.1
    show (_ ∧ _) ∧ _
    rw [k49 _ c1, nI_clamp (by omega)]
    refine ⟨⟨nI_pos (by omega), hF⟩, ?_⟩
    refine qn_num_t (lo := 0) (hi := 10) (by omega) (by omega) (tM_up (by omega) (by omega) t1) (fun y p2 e2 K2 f2 t2 => ?_) (fun k q e2 K2 f2 g2 => ?_)
    · have bx := numR_in e1
      have by' := numR_in e2
      have eB : bodR N w σ 0 p = .inr (s0 σ x y, p2) := by rw [eb]; exact mapR_r (twR_ok e1 e2)
      have fr : fg J K2 := (f1.fg.trans (fg_up (by omega) _)).trans f2.fg
      refine qn_c83_0 (qn_c123_t (i := 0) (by omega) (tM_up (by omega) (by omega) t2) (fun p3 e3 K3 f3 t3 => ?_) (fun k q e3 K3 f3 g3 => ?_))
      · refine h1 _ p2 p3 eB e3 (HV_0 hv hF (by omega) (by omega)) _ (((fr.trans (fg_up (by omega) _)).trans f3.fg).trans (fg_up (by omega) _)) (tM_up (by omega) (by omega) t3) ?_
        have kc : ∀ c, c ≠ 46 → c ≠ 52 + σ.1.1 → K3 c = J c := fun c a b => by
          rw [f3.1 c (by simpa using a), m_up_ne b, f2.1 c (by simpa using a), m_up_ne b, f1.1 c (by simpa using a)]
        have kn : K3 (52 + σ.1.1) 0 = nI x ∧ K3 (52 + σ.1.1) 1 = nI y := by
          rw [f3.1 (52 + σ.1.1) (by simp; omega), m_up_at, if_neg (by omega), m_up_at, if_pos rfl, f2.1 (52 + σ.1.1) (by simp; omega), m_up_at, if_pos rfl]
          exact ⟨rfl, rfl⟩
        refine ⟨?_, ?_, ?_, fun f hf => ?_, fun f hf => ?_, fun s hs' => ?_⟩
        · show K3 49 0 + 1 = nI (σ.1.1 + 1)
          rw [kc 49 (by omega) (by omega), hs.1, nI_1]
        · show K3 49 1 = _
          rw [kc 49 (by omega) (by omega)]; exact hs.2.1
        · show K3 49 2 = _
          rw [kc 49 (by omega) (by omega)]; exact hs.2.2.1
        · have hf2 : f < σ.1.1 + 1 := hf
          show (m_up K3 49 0 _) (52 + f) 0 = nI (uN σ.2.1 σ.1.1 x f) ∧ (m_up K3 49 0 _) (52 + f) 1 = nI (uN σ.2.2.1 σ.1.1 y f)
          rw [m_up_ne (by omega)]
          by_cases c : f = σ.1.1
          · rw [c, uN_eq, uN_eq]; exact kn
          · rw [uN_ne c, uN_ne c, kc (52 + f) (by omega) (by omega)]
            exact hs.2.2.2.1 f (by omega)
        · show K3 83 f = _
          rw [kc 83 (by omega) (by omega)]
          exact hs.2.2.2.2.1 f hf
        · show (m_up K3 49 0 _) (70 + s) 0 = _ ∧ (m_up K3 49 0 _) (70 + s) 1 = _
          rw [m_up_ne (by omega), kc (70 + s) (by omega) (by omega)]
          exact hs.2.2.2.2.2 s hs'
      · exact h0 k q (Or.inr ⟨_, _, eB, e3⟩) _ ((fr.trans (fg_up (by omega) _)).trans f3) g3
    · refine qn_c83_0 (qn_c123_f (i := 0) (by omega) (fM_up (by omega) (by omega) g2) (fun K f g => ?_))
      exact h0 k q (Or.inl (by rw [eb]; exact mapR_l (twR_2 e1 e2))) _ ((((f1.fg.trans (fg_up (by omega) _)).trans f2.fg).trans (fg_up (by omega) _)).trans f) g
  · have c1 : K1 49 0 = nI σ.1.1 := by rw [f1.1 49 (by decide)]; exact hs.1
    show (_ ∧ _) ∧ _
    rw [k49 _ c1, nI_clamp (by omega)]
    refine ⟨⟨nI_pos (by omega), hF⟩, ?_⟩
    have g2 : fM (m_up K1 (52 + σ.1.1) 0 0) N w k q := fM_up (by omega) (by omega) g1
    refine qn_num_f _ _ g2 ?_
    refine qn_c83_0 (qn_c123_f (i := 0) (by omega) (fM_up (by omega) (by omega) g2) (fun K f g => ?_))
    exact h0 k q (Or.inl (by rw [eb]; exact mapR_l (twR_1 e1))) _ (((f1.fg.trans (fg_up (by omega) _)).trans (fg_up (by omega) _)).trans f) g
theorem qn_c35_f {J : II} {x1 x3 : Int32} {k q : Nat} (g : fM J N w k q) (h : Q (.inl none) J T) : t_M_clashing_35 E J T Q x1 x3 := by
  unfold t_M_clashing_35
  exact bq_f (fM_ne g) h
theorem qn_clashing {J : II} {p : Nat} {σ : HS} (hv : HV σ) (t : tM J N w p) (hs : hsM J σ) (h1 : ∀ σ' p1, bodR N w σ 1 p = .inr (σ', p1) → HV σ' → ∀ K, fg J K → tM K N w p1 → hsM K σ' → Q (.inl none) K T) (h0 : ∀ k q, bodR N w σ 1 p = .inl (k, q) → ∀ K, fg J K → fM K N w k q → Q (.inl none) K T) : ev E 73 0 [some (.ref 46), none, none, none] [] J T Q := by
  have eb : bodR N w σ 1 p = mapR (cshR N w p σ.1.1) (fun x => s1 σ x.1 x.2) := rfl
  rw [eb] at h1 h0
  have h8 := hv.1
  refine s_M_clashing_0 ?_
  unfold t_M_clashing_0
  rw [hs.1]
  refine qn_num_t (lo := 0) (hi := σ.1.1) (by omega) (by omega) t (fun x p1 e1 K1 f1 t1 => ?_) (fun k q e1 K1 f1 g1 => ?_)
  · have bx := numR_in e1
    refine qn_blanks t1.1 t1.2.1 t1.2.2.1 ?_
    have tb := tM_at t1 (bl_le (w := w) t1.2.1).2
    have hb := bl_bl (w := w) t1.2.1
    have c1 : (m_up K1 46 4 (nI (bl N w p1))) 49 0 = nI σ.1.1 := by rw [m_up_ne (by decide), f1.1 49 (by decide)]; exact hs.1
    show ev E 71 0 [some (.ref 46), some (.int 0), some (.int ((m_up K1 46 4 (nI (bl N w p1))) 49 0 - 1)), none, none] [] _ T _
    rw [c1]
    refine qn_num_t (lo := 0) (hi := σ.1.1) (by omega) (by omega) tb (fun y p2 e2 K2 f2 t2 => ?_) (fun k q e2 K2 f2 g2 => ?_)
    · have by' := numR_in e2
      have e2' : numR N w p1 0 σ.1.1 = .inr (y, p2) := by rw [← e2]; unfold numR; rw [hb]
      have fr : fg J K2 := (f1.fg.trans (fm_4 _ _).fg).trans f2.fg
      refine bq_t t2.2.2.2.1 ⟨fun z => ?_, fun z => ?_⟩
      · have z2 : x = y := (nI_eq (by omega) (by omega)).mp z
        show ev E 69 0 [some (.ref 46), some (.int 2), some (.int (nI (bl N w p1)))] [] K2 T _
        refine qn_wrong_t (k := 2) t2 (by omega) (fun K3 f3 g3 => ?_)
        exact qn_c35_f (E := E) g3 (h0 2 _ (mapR_l (cshR_3 e1 e2' z2)) K3 (fr.trans f3.fg) g3)
      · have z2 : x ≠ y := fun e => z (by rw [e])
        unfold t_M_clashing_35
        rw [nI_clamp (by omega), nI_clamp (by omega)]
        refine bq_t t2.2.2.2.1 ⟨⟨nI_pos (by omega), by omega⟩, ⟨nI_pos (by omega), by omega⟩, ⟨nI_pos (by omega), by omega⟩, ⟨nI_pos (by omega), by omega⟩, ?_⟩
        have kc : ∀ c, c ≠ 46 → K2 c = J c := fun c a => by rw [f2.1 c (by simpa using a), m_up_ne a, f1.1 c (by simpa using a)]
        have e83 : ∀ f, f < 8 → K2 83 f = nI (σ.2.2.2.1 f) := fun f hf => by rw [kc 83 (by decide)]; exact hs.2.2.2.2.1 f hf
        have k1 : (m_up K2 83 x (K2 83 x ||| (1 : Int32) <<< (nI y &&& 31))) 83 y = nI (σ.2.2.2.1 y) := by rw [m_up_at, if_neg (by omega)]; exact e83 y (by omega)
        rw [k1, e83 x (by omega), shl_one ⟨x, by omega⟩, shl_one ⟨y, by omega⟩, fa_or, fa_or]
        refine h1 (s1 σ x y) p2 (mapR_r (cshR_ok e1 e2' z2)) (HV_1 hv (by omega) (by omega)) _ ((fr.trans (fg_up (by omega) _)).trans (fg_up (by omega) _)) (tM_up (by omega) (by omega) (tM_up (by omega) (by omega) t2)) ?_
        refine ⟨?_, ?_, ?_, fun f hf => ?_, fun f hf => ?_, fun s hs' => ?_⟩
        · show K2 49 0 = _
          rw [kc 49 (by omega)]; exact hs.1
        · show K2 49 1 = _
          rw [kc 49 (by omega)]; exact hs.2.1
        · show K2 49 2 = _
          rw [kc 49 (by omega)]; exact hs.2.2.1
        · have hf2 : f < σ.1.1 := hf
          rw [m_up_ne (by omega), m_up_ne (by omega), kc (52 + f) (by omega)]
          exact hs.2.2.2.1 f hf
        · rw [m_up_at, m_up_at]
          show _ = nI (uN (uN σ.2.2.2.1 x (σ.2.2.2.1 x ||| 2 ^ y)) y (σ.2.2.2.1 y ||| 2 ^ x) f)
          by_cases c : f = y
          · rw [if_pos c, c, uN_eq]
          · rw [if_neg c, uN_ne c]
            by_cases d : f = x
            · rw [if_pos d, d, uN_eq]
            · rw [if_neg d, uN_ne d]
              exact e83 f hf
        · have h6 := hv.2.1
          have hs2 : s < σ.1.2.1 := hs'
          rw [m_up_ne (by omega), m_up_ne (by omega), kc (70 + s) (by omega)]
          exact hs.2.2.2.2.2 s hs'
    · have e2' : numR N w p1 0 σ.1.1 = .inl (k, q) := by rw [← e2]; unfold numR; rw [hb]
      refine bq_f (fM_ne g2) ?_
      exact qn_c35_f (E := E) g2 (h0 k q (mapR_l (cshR_2 e1 e2')) K2 ((f1.fg.trans (fm_4 _ _).fg).trans f2.fg) g2)
  · obtain ⟨p3, hp3, h4⟩ := g1.2.2.2.2
    refine qn_blanks g1.1 hp3 h4 ?_
    have g2 : fM (m_up K1 46 4 (nI (bl N w p3))) N w k q := ⟨g1.1, g1.2.1, g1.2.2.1, g1.2.2.2.1, _, (bl_le hp3).2, rfl⟩
    refine qn_num_f _ _ g2 ?_
    refine bq_f (fM_ne g2) ?_
    exact qn_c35_f (E := E) g2 (h0 k q (mapR_l (cshR_1 e1)) _ (f1.fg.trans (fm_4 _ _).fg) g2)
theorem qn_b1 {J : II} {p : Nat} {σ : HS} (hv : HV σ) (t : tM J N w p) (hs : hsM J σ) (h1 : okB Q T N w σ 1 p J) (h0 : noB Q T N w σ 1 p J) : t_M_clause_78 E J T Q 1 := by
  have up : ∀ {K : II}, t_M_clause_123 E K T Q 1 → t_M_clause_83 E K T Q 1 := fun h => by
    unfold t_M_clause_83 t_M_clause_112
    exact bq_f (by decide) (bq_f (by decide) h)
  unfold t_M_clause_78
  refine bq_t rfl ?_
  refine qn_clashing hv t hs (fun σ' p1 e v K f t1 s1 => up (qn_c123_t (i := 1) (by omega) t1 (fun p2 e2 K2 f2 t2 => ?_) (fun k q e2 K2 f2 g2 => ?_))) (fun k q e K f g => up (qn_c123_f (i := 1) (by omega) g (fun K2 f2 g2 => ?_)))
  · exact h1 σ' p1 p2 e e2 v K2 (f.trans f2.fg) t2 (s1.of v (fun c a b => f2.1 c (by simp; omega)))
  · exact h0 k q (Or.inr ⟨_, _, e, e2⟩) K2 (f.trans f2) g2
  · exact h0 k q (Or.inl e) K2 (f.trans f2) g2
theorem qn_b2 {J : II} {p : Nat} {σ : HS} (hv : HV σ) (hF : σ.1.2.1 < 6) (t : tM J N w p) (hs : hsM J σ) (h1 : okB Q T N w σ 2 p J) (h0 : noB Q T N w σ 2 p J) : t_M_clause_78 E J T Q 2 := by
  have eb : bodR N w σ 2 p = mapR (twR N w p 1 61 0 10) (fun x => s2 σ x.1 x.2) := rfl
  have up : ∀ {K : II}, t_M_clause_123 E K T Q 2 → t_M_clause_112 E K T Q 2 := fun h => by
    unfold t_M_clause_112
    exact bq_f (by decide) h
  unfold t_M_clause_78
  refine bq_f (by decide) ?_
  unfold t_M_clause_83
  refine bq_t rfl ?_
  rw [hs.2.1, nI_clamp (by omega)]
  refine ⟨⟨nI_pos (by omega), hF⟩, ?_⟩
  have k49 : ∀ {K : II} (v : Int32), K 49 1 = nI σ.1.2.1 → (m_up K (70 + σ.1.2.1) 0 v) 49 1 = nI σ.1.2.1 := fun v e => by rw [m_up_ne (by omega)]; exact e
  refine qn_num_t (lo := 1) (hi := 61) (by omega) (by omega) t (fun x p1 e1 K1 f1 t1 => ?_) (fun k q e1 K1 f1 g1 => ?_)
  · have c1 : K1 49 1 = nI σ.1.2.1 := by rw [f1.1 49 (by decide)]; exact hs.2.1
    show (_ ∧ _) ∧ _
    rw [k49 _ c1, nI_clamp (by omega)]
    refine ⟨⟨nI_pos (by omega), hF⟩, ?_⟩
    refine qn_num_t (lo := 0) (hi := 10) (by omega) (by omega) (tM_up (by omega) (by omega) t1) (fun y p2 e2 K2 f2 t2 => ?_) (fun k q e2 K2 f2 g2 => ?_)
    · have bx := numR_in e1
      have by' := numR_in e2
      have eB : bodR N w σ 2 p = .inr (s2 σ x y, p2) := by rw [eb]; exact mapR_r (twR_ok e1 e2)
      have fr : fg J K2 := (f1.fg.trans (fg_up (by omega) _)).trans f2.fg
      refine up (qn_c123_t (i := 2) (by omega) (tM_up (by omega) (by omega) t2) (fun p3 e3 K3 f3 t3 => ?_) (fun k q e3 K3 f3 g3 => ?_))
      · refine h1 _ p2 p3 eB e3 (HV_2 hv hF (by omega) (by omega) (by omega)) _ (((fr.trans (fg_up (by omega) _)).trans f3.fg).trans (fg_up (by omega) _)) (tM_up (by omega) (by omega) t3) ?_
        have kc : ∀ c, c ≠ 46 → c ≠ 70 + σ.1.2.1 → K3 c = J c := fun c a b => by
          rw [f3.1 c (by simpa using a), m_up_ne b, f2.1 c (by simpa using a), m_up_ne b, f1.1 c (by simpa using a)]
        have kn : K3 (70 + σ.1.2.1) 0 = nI x ∧ K3 (70 + σ.1.2.1) 1 = nI y := by
          rw [f3.1 (70 + σ.1.2.1) (by simp; omega), m_up_at, if_neg (by omega), m_up_at, if_pos rfl, f2.1 (70 + σ.1.2.1) (by simp; omega), m_up_at, if_pos rfl]
          exact ⟨rfl, rfl⟩
        have h8 := hv.1
        refine ⟨?_, ?_, ?_, fun f hf => ?_, fun f hf => ?_, fun s hs' => ?_⟩
        · show K3 49 0 = _
          rw [kc 49 (by omega) (by omega)]; exact hs.1
        · show K3 49 1 + 1 = nI (σ.1.2.1 + 1)
          rw [kc 49 (by omega) (by omega), hs.2.1, nI_1]
        · show K3 49 2 = _
          rw [kc 49 (by omega) (by omega)]; exact hs.2.2.1
        · have hf2 : f < σ.1.1 := hf
          show (m_up K3 49 1 _) (52 + f) 0 = _ ∧ (m_up K3 49 1 _) (52 + f) 1 = _
          rw [m_up_ne (by omega), kc (52 + f) (by omega) (by omega)]
          exact hs.2.2.2.1 f hf
        · show K3 83 f = _
          rw [kc 83 (by omega) (by omega)]
          exact hs.2.2.2.2.1 f hf
        · have hs2 : s < σ.1.2.1 + 1 := hs'
          show (m_up K3 49 1 _) (70 + s) 0 = nI (uN σ.2.2.2.2.1 σ.1.2.1 x s) ∧ (m_up K3 49 1 _) (70 + s) 1 = nI (uN σ.2.2.2.2.2 σ.1.2.1 y s)
          rw [m_up_ne (by omega)]
          by_cases c : s = σ.1.2.1
          · rw [c, uN_eq, uN_eq]; exact kn
          · rw [uN_ne c, uN_ne c, kc (70 + s) (by omega) (by omega)]
            exact hs.2.2.2.2.2 s (by omega)
      · exact h0 k q (Or.inr ⟨_, _, eB, e3⟩) _ ((fr.trans (fg_up (by omega) _)).trans f3) g3
    · refine up (qn_c123_f (i := 2) (by omega) (fM_up (by omega) (by omega) g2) (fun K f g => ?_))
      exact h0 k q (Or.inl (by rw [eb]; exact mapR_l (twR_2 e1 e2))) _ ((((f1.fg.trans (fg_up (by omega) _)).trans f2.fg).trans (fg_up (by omega) _)).trans f) g
  · have c1 : K1 49 1 = nI σ.1.2.1 := by rw [f1.1 49 (by decide)]; exact hs.2.1
    show (_ ∧ _) ∧ _
    rw [k49 _ c1, nI_clamp (by omega)]
    refine ⟨⟨nI_pos (by omega), hF⟩, ?_⟩
    have g2 : fM (m_up K1 (70 + σ.1.2.1) 0 0) N w k q := fM_up (by omega) (by omega) g1
    refine qn_num_f _ _ g2 ?_
    refine up (qn_c123_f (i := 2) (by omega) (fM_up (by omega) (by omega) g2) (fun K f g => ?_))
    exact h0 k q (Or.inl (by rw [eb]; exact mapR_l (twR_1 e1))) _ (((f1.fg.trans (fg_up (by omega) _)).trans (fg_up (by omega) _)).trans f) g
theorem qn_b3 {J : II} {p : Nat} {σ : HS} (hv : HV σ) (t : tM J N w p) (hs : hsM J σ) (h1 : okB Q T N w σ 3 p J) (h0 : noB Q T N w σ 3 p J) : t_M_clause_78 E J T Q 3 := by
  have eb : bodR N w σ 3 p = mapR (numR N w p 1 41) (fun x => s3 σ x) := rfl
  unfold t_M_clause_78 t_M_clause_83 t_M_clause_112
  refine bq_f (by decide) (bq_f (by decide) (bq_t rfl ?_))
  refine qn_num_t (lo := 1) (hi := 41) (by omega) (by omega) t (fun x p1 e1 K1 f1 t1 => ?_) (fun k q e1 K1 f1 g1 => ?_)
  · have bx := numR_in e1
    have eB : bodR N w σ 3 p = .inr (s3 σ x, p1) := by rw [eb]; exact mapR_r e1
    have fr : fg J (m_up K1 49 2 (nI x)) := f1.fg.trans (fg_up (by omega) _)
    refine qn_c123_t (i := 3) (by omega) (tM_up (by omega) (by omega) t1) (fun p2 e2 K2 f2 t2 => ?_) (fun k q e2 K2 f2 g2 => ?_)
    · refine h1 _ p1 p2 eB e2 (HV_3 hv (by omega)) _ (fr.trans f2.fg) t2 ?_
      have kc : ∀ c, c ≠ 46 → c ≠ 49 → K2 c = J c := fun c a b => by rw [f2.1 c (by simpa using a), m_up_ne b, f1.1 c (by simpa using a)]
      have k49 : K2 49 = (m_up K1 49 2 (nI x)) 49 := f2.1 49 (by decide)
      have h8 := hv.1
      have h6 := hv.2.1
      have e49 : K1 49 = J 49 := f1.1 49 (by decide)
      refine ⟨?_, ?_, ?_, fun f hf => ?_, fun f hf => ?_, fun s hs' => ?_⟩
      · show K2 49 0 = _
        rw [k49, m_up_at, if_neg (by omega), e49]; exact hs.1
      · show K2 49 1 = _
        rw [k49, m_up_at, if_neg (by omega), e49]; exact hs.2.1
      · show K2 49 2 = _
        rw [k49, m_up_at, if_pos rfl]; rfl
      · have hf2 : f < σ.1.1 := hf
        show K2 (52 + f) 0 = _ ∧ K2 (52 + f) 1 = _
        rw [kc (52 + f) (by omega) (by omega)]
        exact hs.2.2.2.1 f hf
      · show K2 83 f = _
        rw [kc 83 (by omega) (by omega)]
        exact hs.2.2.2.2.1 f hf
      · have hs2 : s < σ.1.2.1 := hs'
        show K2 (70 + s) 0 = _ ∧ K2 (70 + s) 1 = _
        rw [kc (70 + s) (by omega) (by omega)]
        exact hs.2.2.2.2.2 s hs'
    · exact h0 k q (Or.inr ⟨_, _, eB, e2⟩) _ (fr.trans f2) g2
  · refine qn_c123_f (i := 3) (by omega) (fM_up (by omega) (by omega) g1) (fun K f g => ?_)
    exact h0 k q (Or.inl (by rw [eb]; exact mapR_l e1)) _ ((f1.fg.trans (fg_up (by omega) _)).trans f) g
/-- what a clause leaves: but for the number of clauses -/
def fh (I J : II) : Prop := (∀ c, c ≠ 46 → c ≠ 49 → c ≠ 83 → ¬ (52 ≤ c ∧ c < 60) → ¬ (70 ≤ c ∧ c < 76) → J c = I c) ∧ ∀ j, j ≠ 4 → j ≠ 5 → j ≠ 6 → j ≠ 7 → J 46 j = I 46 j
theorem fh.trans {I J K : II} (h : fh I J) (k : fh J K) : fh I K := ⟨fun c a b d e f => (k.1 c a b d e f).trans (h.1 c a b d e f), fun j a b c d => (k.2 j a b c d).trans (h.2 j a b c d)⟩
theorem fg.fh {I J : II} (h : fg I J) : fh I J := ⟨h.1, fun j a b c _ => h.2 j a b c⟩
theorem fh_7 (I : II) (v : Int32) : fh I (m_up I 46 7 v) := ⟨fun c a _ _ _ _ => m_up_ne a, fun j _ _ _ h => by rw [m_up_at, if_neg h]⟩
theorem qn_clause {J : II} {p c : Nat} {σ : HS} (hc : c ≤ 60) (h7 : J 46 7 = nI c) (hv : HV σ) (t : tM J N w p) (hs : hsM J σ) (h1 : ∀ σ' p1 p2, hcR N w σ c p = .inr (σ', p1) → sgnR N w p1 59 = .inr ((), p2) → c < 60 → HV σ' → ∀ K, fh J K → K 46 7 = nI (c + 1) → tM K N w p2 → hsM K σ' → Q (.inl none) K T) (h0 : ∀ k q, (hcR N w σ c p = .inl (k, q) ∨ ∃ σ' p1, hcR N w σ c p = .inr (σ', p1) ∧ sgnR N w p1 59 = .inl (k, q)) → ∀ K, fh J K → fM K N w k q → Q (.inl none) K T) : ev E 62 0 [some (.ref 46), none] [] J T Q := by
  have h8 := hv.1
  have h6 := hv.2.1
  have hb := bl_le (w := w) t.2.1
  refine s_M_clause_0 ?_
  unfold t_M_clause_0
  have tb := tM_at t hb.2
  have e38 : ∀ {K : II} {k q : Nat} {x1 : Int32}, fM K N w k q → Q (.inl none) K T → t_M_clause_38 E K T Q x1 := fun g hq => by
    unfold t_M_clause_38
    exact bq_f (fM_ne g) hq
  refine qn_kind t (fun i ei => ?_) (fun en => ?_)
  · have i4 := kx3_lt ei
    have e3 : 60 ≤ c ∨ (i = 0 ∧ 8 ≤ σ.1.1) ∨ (i = 2 ∧ 6 ≤ σ.1.2.1) → t_M_clause_33 E (m_up J 46 4 (nI (bl N w p))) T Q (nI i) := fun z => by
      unfold t_M_clause_33
      show ev E 69 0 [some (.ref 46), some (.int 3), some (.int (nI (bl N w p)))] [] _ T _
      refine qn_wrong_t (k := 3) tb (by omega) (fun K f g => ?_)
      exact e38 g (h0 3 _ (Or.inl (hcR_3 ei z)) K ((fm_4 _ _).fg.trans f.fg).fh g)
    have go : ¬ (60 ≤ c ∨ (i = 0 ∧ 8 ≤ σ.1.1) ∨ (i = 2 ∧ 6 ≤ σ.1.2.1)) → t_M_clause_38 E (m_up J 46 4 (nI (bl N w p))) T Q (nI i) := fun nz => by
      have hbod := hcR_b ei nz
      rw [hbod] at h1 h0
      unfold t_M_clause_38
      refine bq_t tb.2.2.2.1 ?_
      refine qn_skipWord t.1 (N - bl N w p) (bl N w p) (by omega) ?_
      have hl := le_le (w := w) hb.2
      have e7 : (m_up J 46 4 (nI (le N w (bl N w p)))) 46 7 + 1 = nI (c + 1) := by
        show J 46 7 + 1 = _
        rw [h7, nI_1]
      show (nI i = 0 → _) ∧ (¬ nI i = 0 → _)
      rw [e7]
      generalize hJ2 : m_up (m_up J 46 4 (nI (le N w (bl N w p)))) 46 7 (nI (c + 1)) = J2
      have t2 : tM J2 N w (le N w (bl N w p)) := by rw [← hJ2]; exact tM_7 (by omega) (tM_at t hl.2)
      have s2 : hsM J2 σ := hs.of hv (fun x a b => by rw [← hJ2, m_up_ne (by omega), m_up_ne (by omega)])
      have f2 : fh J J2 := by rw [← hJ2]; exact (fm_4 _ _).fg.fh.trans (fh_7 _ _)
      have k7 : ∀ {K}, fg J2 K → K 46 7 = nI (c + 1) := fun f => by rw [f.2 7 (by omega) (by omega) (by omega), ← hJ2]; rfl
      have hok : okB Q T N w σ i (le N w (bl N w p)) J2 := fun σ' p1 p2 a b v K f tK s => h1 σ' p1 p2 a b (by omega) v K (f2.trans f.fh) (k7 f) tK s
      have hno : noB Q T N w σ i (le N w (bl N w p)) J2 := fun k q a K f g => h0 k q a K (f2.trans f.fh) g
      match i, i4 with
      | 0, _ => exact bq_t rfl (qn_b0 hv (by omega) t2 s2 hok hno)
      | 1, _ => exact bq_f (by decide) (qn_b1 hv t2 s2 hok hno)
      | 2, _ => exact bq_f (by decide) (qn_b2 hv (by omega) t2 s2 hok hno)
      | 3, _ => exact bq_f (by decide) (qn_b3 hv t2 s2 hok hno)
    have c24 : c < 60 → ¬ (i = 0 ∧ 8 ≤ σ.1.1) → t_M_clause_24 E (m_up J 46 4 (nI (bl N w p))) T Q (nI i) := fun z y => by
      unfold t_M_clause_24
      have e49 : (m_up J 46 4 (nI (bl N w p))) 49 1 = nI σ.1.2.1 := hs.2.1
      rw [e49]
      refine ⟨fun a => ?_, fun a => go ?_⟩
      · have i2 : i = 2 := (nI_eq (a := i) (b := 2) (by omega) (by omega)).mp a
        refine ⟨fun b => e3 (Or.inr (Or.inr ⟨i2, ?_⟩)), fun b => go ?_⟩
        · have := (nI_eq (a := σ.1.2.1) (b := 6) (by omega) (by omega)).mp b
          omega
        · have b2 : σ.1.2.1 ≠ 6 := fun q => b (by rw [q]; rfl)
          rintro (q | q | q)
          · omega
          · omega
          · omega
      · rintro (q | q | q)
        · omega
        · exact y q
        · exact a (by rw [q.1]; rfl)
    refine bq_f (nI_m1 (by omega)) ?_
    have e7 : (m_up J 46 4 (nI (bl N w p))) 46 7 = nI c := h7
    have e49 : (m_up J 46 4 (nI (bl N w p))) 49 0 = nI σ.1.1 := hs.1
    rw [e7, e49]
    refine ⟨fun z => e3 (Or.inl (by have := (nI_eq (a := c) (b := 60) (by omega) (by omega)).mp z; omega)), fun z => ?_⟩
    have z1 : c ≠ 60 := fun q => z (by rw [q]; rfl)
    refine ⟨fun a => ⟨fun b => e3 (Or.inr (Or.inl ⟨(nI_eq (a := i) (b := 0) (by omega) (by omega)).mp a, ?_⟩)), fun b => c24 (by omega) (fun q => b ?_)⟩, fun a => c24 (by omega) (fun q => a (by rw [q.1]; rfl))⟩
    · have := (nI_eq (a := σ.1.1) (b := 8) (by omega) (by omega)).mp b
      omega
    · have : σ.1.1 = 8 := by omega
      rw [this]; rfl
  · refine bq_t rfl ?_
    show ev E 69 0 [some (.ref 46), some (.int 1), some (.int (nI (bl N w p)))] [] _ T _
    refine qn_wrong_t (k := 1) tb (by omega) (fun K f g => ?_)
    exact e38 g (h0 1 _ (Or.inl (hcR_n en)) K ((fm_4 _ _).fg.trans f.fg).fh g)
theorem l_mhr : ∀ (d c p : Nat) (σ : HS) (J : II), d + c = 61 → p ≤ N → HV σ → tM J N w (bl N w p) → hsM J σ → J 46 7 = nI c → fh I J → (∀ σ', hsR N w d c p σ = .inr σ' → HV σ' → ∀ p' K, fh I K → tM K N w p' → hsM K σ' → t_M_house_37 E K T Q) → (∀ k q, hsR N w d c p σ = .inl (k, q) → ∀ K, fh I K → fM K N w k q → t_M_house_37 E K T Q) → c ≤ 60 → t_M_house_24 E J T Q
  | 0, c, p, σ, J, hd, _, _, _, _, _, _, _, _, hc => absurd hd (by omega)
  | d + 1, c, p, σ, J, hd, hp, hv, t, hs, h7, fr, h1, h0, hc => by
    have n6 := t.1.1
    unfold t_M_house_24
    refine bq_t t.2.2.2.1 ?_
    rw [t.1.2.2.1, t.2.2.1]
    by_cases z : bl N w p = N
    · refine bq_t (by rw [z]; exact nI_le (Nat.le_refl _) (by omega)) ?_
      exact h1 σ (hsR_e z) hv _ J fr t hs
    · have hb := bl_le (w := w) hp
      refine bq_f (nI_ge (by omega) (by omega)) ?_
      refine qn_clause hc h7 hv t hs (fun σ' p1 p2 e1 e2 c6 hv1 K f k7 tK sK => ?_) (fun k q a K f g => ?_)
      · refine qn_blanks tK.1 tK.2.1 tK.2.2.1 ?_
        rw [hsR_n z e1 e2] at h1 h0
        exact s_M_house_24 (l_mhr d (c + 1) p2 σ' _ (by omega) tK.2.1 hv1 (tM_at tK (bl_le tK.2.1).2) (sK.of hv1 (fun x a b => m_up_ne (by omega))) k7 ((fr.trans f).trans (fm_4 _ _).fg.fh) h1 h0 (by omega))
      · obtain ⟨p3, hp3, h4⟩ := g.2.2.2.2
        refine qn_blanks g.1 hp3 h4 ?_
        have g2 : fM (m_up K 46 4 (nI (bl N w p3))) N w k q := ⟨g.1, g.2.1, g.2.2.1, g.2.2.2.1, _, (bl_le hp3).2, rfl⟩
        refine s_M_house_24 ?_
        unfold t_M_house_24
        refine bq_f (fM_ne g2) (h0 k q ?_ _ ((fr.trans f).trans (fm_4 _ _).fg.fh) g2)
        rcases a with a | ⟨σ', p1, a, b⟩
        · exact hsR_l z a
        · exact hsR_s z a b
end MHOUSE
