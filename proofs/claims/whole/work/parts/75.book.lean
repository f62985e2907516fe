/-! ===== book ===== -/
def dv : List (Nat × Nat) → Nat → Int32
  | [], _ => -1
  | x :: l, j => if j = x.1 then nI x.2 else dv l j
noncomputable def lineR (N : Nat) (w : Nat → Nat) (F p : Nat) (l : List (Nat × Nat)) : RS (Nat × Nat) := match numR N w p 0 F with
  | .inl e => .inl e
  | .inr (f, p1) => if f ∈ l.map Prod.fst then .inl (2, bl N w p) else match numR N w p1 0 1000 with
    | .inl e => .inl e
    | .inr (v, p2) => .inr ((f, v), p2)
noncomputable def bkR (N : Nat) (w : Nat → Nat) (F : Nat) : Nat → Nat → List (Nat × Nat) → Sum (Nat × Nat) (List (Nat × Nat))
  | 0, _, l => .inr l
  | d + 1, p, l => if bl N w p = N then .inr l else match lineR N w F (bl N w p) l with
    | .inl e => .inl e
    | .inr (x, p1) => match sgnR N w p1 59 with
      | .inl e => .inl e
      | .inr (_, p2) => bkR N w F d p2 (x :: l)
def okK (F : Nat) (l : List (Nat × Nat)) : Prop := (l.map Prod.fst).Nodup ∧ ∀ x, x ∈ l → x.1 < F ∧ x.2 ≤ 999
theorem nodup_le : ∀ (n : Nat) (l : List Nat), l.Nodup → (∀ x, x ∈ l → x < n) → l.length ≤ n
  | 0, l, _, h => by
    cases l with
    | nil => exact Nat.le_refl _
    | cons x l => exact absurd (h x (List.mem_cons_self)) (by omega)
  | n + 1, l, hn, h => by
    by_cases c : n ∈ l
    · have h1 := nodup_le n (l.erase n) (hn.erase n) (fun x hx => by
        have h2 := (hn.mem_erase_iff).mp hx
        have h3 := h x h2.2
        have := h2.1
        omega)
      rw [List.length_erase_of_mem c] at h1
      omega
    · have h1 := nodup_le n l hn (fun x hx => by
        have h3 := h x hx
        have : x ≠ n := fun e => c (by rw [← e]; exact hx)
        omega)
      omega
theorem okK_len {F : Nat} {l : List (Nat × Nat)} (hF : F ≤ 8) (h : okK F l) : l.length ≤ 8 := by
  have h1 := nodup_le F (l.map Prod.fst) h.1 (fun x hx => by
    obtain ⟨y, y1, y2⟩ := List.mem_map.mp hx
    rw [← y2]
    exact (h.2 y y1).1)
  rw [List.length_map] at h1
  omega
theorem dv_no {F : Nat} {l : List (Nat × Nat)} (h : okK F l) (f : Nat) : dv l f = -1 ↔ f ∉ l.map Prod.fst := by
  induction l with
  | nil => exact ⟨fun _ => by simp, fun _ => rfl⟩
  | cons x l ih =>
    have h2 : okK F l := ⟨(List.nodup_cons.mp h.1).2, fun y hy => h.2 y (List.mem_cons_of_mem _ hy)⟩
    rw [dv]
    by_cases c : f = x.1
    · rw [if_pos c]
      have := (h.2 x List.mem_cons_self).2
      exact ⟨fun q => absurd q (nI_m1 (by omega)), fun q => absurd (by rw [c]; exact List.mem_cons_self) q⟩
    · rw [if_neg c, ih h2]
      simp [c]
theorem dv_in {F : Nat} {l : List (Nat × Nat)} (h : okK F l) : ∀ x, x ∈ l → dv l x.1 = nI x.2 := by
  induction l with
  | nil => intro x hx; cases hx
  | cons y l ih =>
    have h2 : okK F l := ⟨(List.nodup_cons.mp h.1).2, fun y hy => h.2 y (List.mem_cons_of_mem _ hy)⟩
    intro x hx
    rw [dv]
    rcases List.mem_cons.mp hx with e | hx
    · rw [if_pos (by rw [e]), e]
    · rw [if_neg (fun e => (List.nodup_cons.mp h.1).1 (by rw [← e]; exact List.mem_map.mpr ⟨x, hx, rfl⟩))]
      exact ih h2 x hx
/-- pairs in a row of cells, the latest first -/
def rw2 (c : Nat) (J : II) : List (Nat × Nat) → Prop
  | [] => True
  | x :: l => (J (c + l.length) 0 = nI x.1 ∧ J (c + l.length) 1 = nI x.2) ∧ rw2 c J l
theorem rw2_of {c c2 : Nat} {J K : II} : ∀ {l : List (Nat × Nat)}, rw2 c J l → (∀ j, j < l.length → K (c2 + j) 0 = J (c + j) 0 ∧ K (c2 + j) 1 = J (c + j) 1) → rw2 c2 K l
  | [], _, _ => trivial
  | x :: l, h, e => by
    refine ⟨?_, rw2_of h.2 (fun j hj => e j (by rw [List.length_cons]; omega))⟩
    rw [(e l.length (by rw [List.length_cons]; omega)).1, (e l.length (by rw [List.length_cons]; omega)).2]
    exact h.1
theorem rw2_at {c : Nat} {J : II} : ∀ {l : List (Nat × Nat)}, rw2 c J l → ∀ j, j < l.length → ∃ x, x ∈ l ∧ J (c + j) 0 = nI x.1 ∧ J (c + j) 1 = nI x.2
  | [], _, j, hj => absurd hj (Nat.not_lt_zero _)
  | x :: l, h, j, hj => by
    rw [List.length_cons] at hj
    by_cases e : j = l.length
    · subst e
      exact ⟨x, List.mem_cons_self, h.1⟩
    · obtain ⟨y, y1, y2⟩ := rw2_at h.2 j (by omega)
      exact ⟨y, List.mem_cons_of_mem _ y1, y2⟩
theorem rw2_ex {c : Nat} {J : II} : ∀ {l : List (Nat × Nat)}, rw2 c J l → ∀ x, x ∈ l → ∃ j, j < l.length ∧ J (c + j) 0 = nI x.1
  | [], _, x, hx => by cases hx
  | y :: l, h, x, hx => by
    rcases List.mem_cons.mp hx with e | hx
    · subst e
      exact ⟨l.length, by rw [List.length_cons]; omega, h.1.1⟩
    · obtain ⟨j, j1, j2⟩ := rw2_ex h.2 x hx
      exact ⟨j, by rw [List.length_cons]; omega, j2⟩
theorem lineR_n {N : Nat} {w : Nat → Nat} {F p : Nat} {l : List (Nat × Nat)} {e : Nat × Nat} (h : numR N w p 0 F = .inl e) : lineR N w F p l = .inl e := by unfold lineR; rw [h]
theorem lineR_d {N : Nat} {w : Nat → Nat} {F p f p1 : Nat} {l : List (Nat × Nat)} (h : numR N w p 0 F = .inr (f, p1)) (d : f ∈ l.map Prod.fst) : lineR N w F p l = .inl (2, bl N w p) := by
  unfold lineR; rw [h]; exact if_pos d
theorem lineR_m {N : Nat} {w : Nat → Nat} {F p f p1 : Nat} {l : List (Nat × Nat)} {e : Nat × Nat} (h : numR N w p 0 F = .inr (f, p1)) (d : f ∉ l.map Prod.fst) (h2 : numR N w p1 0 1000 = .inl e) : lineR N w F p l = .inl e := by
  unfold lineR; rw [h]; show (if _ then _ else _) = _; rw [if_neg d, h2]
theorem lineR_ok {N : Nat} {w : Nat → Nat} {F p f p1 v p2 : Nat} {l : List (Nat × Nat)} (h : numR N w p 0 F = .inr (f, p1)) (d : f ∉ l.map Prod.fst) (h2 : numR N w p1 0 1000 = .inr (v, p2)) : lineR N w F p l = .inr ((f, v), p2) := by
  unfold lineR; rw [h]; show (if _ then _ else _) = _; rw [if_neg d, h2]
theorem bkR_e {N : Nat} {w : Nat → Nat} {F d p : Nat} {l : List (Nat × Nat)} (h : bl N w p = N) : bkR N w F (d + 1) p l = .inr l := by rw [bkR, if_pos h]
theorem bkR_l {N : Nat} {w : Nat → Nat} {F d p : Nat} {l : List (Nat × Nat)} {e : Nat × Nat} (h : bl N w p ≠ N) (h1 : lineR N w F (bl N w p) l = .inl e) : bkR N w F (d + 1) p l = .inl e := by rw [bkR, if_neg h, h1]
theorem bkR_s {N : Nat} {w : Nat → Nat} {F d p p1 : Nat} {x : Nat × Nat} {l : List (Nat × Nat)} {e : Nat × Nat} (h : bl N w p ≠ N) (h1 : lineR N w F (bl N w p) l = .inr (x, p1)) (h2 : sgnR N w p1 59 = .inl e) : bkR N w F (d + 1) p l = .inl e := by
  rw [bkR, if_neg h, h1]; show (match sgnR N w p1 59 with | .inl e => _ | .inr (_, p2) => _) = _; rw [h2]
theorem bkR_n {N : Nat} {w : Nat → Nat} {F d p p1 p2 : Nat} {x : Nat × Nat} {l : List (Nat × Nat)} (h : bl N w p ≠ N) (h1 : lineR N w F (bl N w p) l = .inr (x, p1)) (h2 : sgnR N w p1 59 = .inr ((), p2)) : bkR N w F (d + 1) p l = bkR N w F d p2 (x :: l) := by
  rw [bkR, if_neg h, h1]; show (match sgnR N w p1 59 with | .inl e => _ | .inr (_, p2) => _) = _; rw [h2]
section BOOK
variable {E : MEnv} {B I : II} {T : TT} {Q : QQ} {N F : Nat} {w : Nat → Nat}
theorem tC_up {J : II} {p c j : Nat} {v : Int32} (hc : c ≠ 1) (hc2 : c ≠ 2) (h : tC J N w p) : tC (m_up J c j v) N w p := by
  unfold tC cB at h ⊢
  rw [m_up_ne (Ne.symm hc), m_up_ne (Ne.symm hc2)]
  exact h
theorem fC_up {J : II} {k q c j : Nat} {v : Int32} (hc : c ≠ 1) (hc2 : c ≠ 2) (h : fC J N w k q) : fC (m_up J c j v) N w k q := by
  unfold fC cB at h ⊢
  rw [m_up_ne (Ne.symm hc), m_up_ne (Ne.symm hc2)]
  exact h
theorem tM_up {J : II} {p c j : Nat} {v : Int32} (hc : c ≠ 46) (hc2 : c ≠ 47) (h : tM J N w p) : tM (m_up J c j v) N w p := by
  unfold tM mB at h ⊢
  rw [m_up_ne (Ne.symm hc), m_up_ne (Ne.symm hc2)]
  exact h
/-- to the end of a text or not -/
theorem cv_m1 {p : Nat} (hp : p ≤ N) (hw : p < N → w p < 256) : cv N w p = -1 ↔ p = N := by
  unfold cv
  by_cases c : p < N
  · rw [if_pos c]
    have := hw c
    exact ⟨fun q => absurd q (nI_m1 (by omega)), fun q => absurd q (by omega)⟩
  · rw [if_neg c]
    exact ⟨fun _ => by omega, fun _ => rfl⟩
theorem q_line {p : Nat} {l : List (Nat × Nat)} (hF : F ≤ 8) (hl : okK F l) (h : tC I N w p) (hd : ∀ j, j < 8 → I 22 j = dv l j) (h1 : ∀ x p', lineR N w F p l = .inr (x, p') → okK F (x :: l) → ∀ J, FR [1, 22] I J → tC J N w p' → (∀ j, j < 8 → J 22 j = dv (x :: l) j) → Q (.inl none) J T) (h0 : ∀ k q, lineR N w F p l = .inl (k, q) → ∀ J, FR [1, 22] I J → fC J N w k q → Q (.inl none) J T) : ev E 172 0 [some (.ref 20), some (.ref 1), some (.int (nI F)), none] [] I T Q := by
  refine s_Book_readLine_0 ?_
  unfold t_Book_readLine_0 t_Book_readLine_15
  have m1 : ∀ {J : II}, FR [1] I J → FR [1, 22] I J := fun q => q.mono (by decide)
  refine q_num_t (lo := 0) (hi := F) (by omega) (by omega) h (fun f p1 e1 J hJ tJ mJ => ?_) (fun k q e1 x J hJ fJ => ?_)
  · have hf := (numR_in e1).2
    refine bq_f (nI_pos (by omega)) ?_
    refine bq_f (nI_ge (a := f) (b := 8) (by omega) (by omega)) ?_
    refine q_isFine_t tJ ?_
    refine bq_f (by decide) ⟨gix (by omega) (by omega), ?_⟩
    rw [nI_clamp (by omega), hJ 22 (by decide), hd f (by omega)]
    refine ⟨fun z => ?_, fun z => ?_⟩
    · have z2 := (dv_no hl f).mp z
      refine q_num_t (lo := 0) (hi := 1000) (by omega) (by omega) tJ (fun v p2 e2 J2 hJ2 tJ2 _ => ?_) (fun k q e2 x J2 hJ2 fJ2 => ?_)
      · have hv := (numR_in e2).2
        refine ⟨⟨nI_pos (by omega), by omega⟩, h1 (f, v) p2 (lineR_ok e1 z2 e2) ⟨List.nodup_cons.mpr ⟨z2, hl.1⟩, fun y hy => ?_⟩ _ ((m1 (hJ.trans hJ2)).trans (FR.up (by decide) _ _)) (tC_up (by decide) (by decide) tJ2) (fun j hj => ?_)⟩
        · rcases List.mem_cons.mp hy with e | hy
          · rw [e]; exact ⟨hf, by show v ≤ 999; omega⟩
          · exact hl.2 y hy
        · rw [m_up_at, dv]
          show (if j = f then _ else _) = if j = f then _ else _
          by_cases c : j = f
          · rw [if_pos c, if_pos c]
          · rw [if_neg c, if_neg c, (hJ.trans hJ2) 22 (by decide), hd j hj]
      · exact ⟨⟨nI_pos (by omega), by omega⟩, h0 k q (lineR_m e1 z2 e2) _ ((m1 (hJ.trans hJ2)).trans (FR.up (by decide) _ _)) (fC_up (by decide) (by decide) fJ2)⟩
    · have z2 : f ∈ l.map Prod.fst := Decidable.not_not.mp (fun q => z ((dv_no hl f).mpr q))
      rw [mJ]
      refine q_fail_t (k := 2) tJ (by omega) (fun J2 hJ2 fJ2 => ?_)
      exact h0 2 _ (lineR_d e1 z2) J2 (m1 (hJ.trans hJ2)) fJ2
  · have fin : Q (.inl none) J T := h0 k q (lineR_n e1) J (m1 hJ) fJ
    refine ⟨fun _ => fin, fun _ => ⟨fun _ => fin, fun _ => q_isFine_f fJ (bq_t rfl fin)⟩⟩
theorem q_bk36_f {J : II} {k q : Nat} {x3 : Int32} (fJ : fC J N w k q) (hq : Q (.inl none) J T) : t_Book_read_36 E J T Q x3 := by
  unfold t_Book_read_36
  exact q_isFine_f fJ (bq_t rfl hq)
theorem q_bk16_f {J : II} {k q : Nat} {x2 x3 x4 : Int32} (fJ : fC J N w k q) (hq : Q (.inl none) J T) : t_Book_read_16 E J T Q x2 x3 x4 := by
  unfold t_Book_read_16
  exact ⟨fun _ => q_bk36_f fJ hq, fun _ => q_isFine_f fJ (bq_t rfl (q_bk36_f fJ hq))⟩
theorem l_bk (hF : F ≤ 8) : ∀ (d p : Nat) (l : List (Nat × Nat)) (J : II), d + l.length = 9 → okK F l → tC J N w p → FR [1, 22] I J → (∀ j, j < 8 → J 22 j = dv l j) → (∀ l', bkR N w F d p l = .inr l' → okK F l' → ∀ p' K, FR [1, 22] I K → tC K N w p' → (∀ j, j < 8 → K 22 j = dv l' j) → Q (.inl none) (m_up (m_row K 21 (va_cpy (K 22) (K 21) 0 0 8)) 20 2 (nI l'.length)) T) → (∀ k q, bkR N w F d p l = .inl (k, q) → ∀ K, FR [1, 22] I K → fC K N w k q → Q (.inl none) K T) → t_Book_read_16 E J T Q (nI F) (nI l.length) (nI l.length)
  | 0, p, l, J, hd, hl, _, _, _, _, _ => by
    have := okK_len hF hl
    omega
  | d + 1, p, l, J, hd, hl, tJ, fr, h22, h1, h0 => by
    have hlen := okK_len hF hl
    have hb := bl_le (w := w) tJ.2.1
    unfold t_Book_read_16
    refine bq_f (show ¬ (8 : Int32) < nI l.length from nI_nlt (a := 8) (b := l.length) (by omega) (by omega)) ?_
    refine q_isFine_t tJ (bq_f (by decide) ?_)
    refine q_peekP tJ.1 tJ.2.1 tJ.2.2.1 ?_
    have tb := tC_at tJ hb.2
    have frb : FR [1, 22] I (m_up J 1 3 (nI (bl N w p))) := fr.trans (FR.up (by decide) _ _)
    by_cases c : bl N w p = N
    · refine bq_t ((cv_m1 hb.2 (fun z => (tJ.1.2.2.2 _ z).1)).mpr c) ?_
      unfold t_Book_read_36
      refine q_isFine_t tb (bq_f (by decide) ?_)
      exact h1 l (bkR_e c) hl _ _ frb tb h22
    · refine bq_f (fun z => c ((cv_m1 hb.2 (fun z => (tJ.1.2.2.2 _ z).1)).mp z)) ?_
      refine q_line hF hl tb h22 (fun x p1 e1 hl2 J1 fr1 t1 h221 => ?_) (fun k q e1 J1 fr1 f1 => ?_)
      · refine q_sign_t (c := 59) (by omega) t1 (fun p2 e2 J2 fr2 t2 => ?_) (fun k q e2 J2 fr2 f2 => ?_)
        · show ev E 171 16 [some (.ref 20), some (.ref 1), some (.int (nI F)), some (.int (nI l.length + 1)), some (.int (nI l.length + 1))] [] J2 T Q
          rw [nI_1]
          rw [bkR_n c e1 e2] at h1 h0
          exact s_Book_read_16 (l_bk hF d p2 (x :: l) J2 (by rw [List.length_cons]; omega) hl2 t2 ((frb.trans fr1).trans (fr2.mono (by decide))) (fun j hj => by rw [fr2 22 (by decide)]; exact h221 j hj) h1 h0)
        · exact s_Book_read_16 (q_bk16_f f2 (h0 k q (bkR_s c e1 e2) J2 ((frb.trans fr1).trans (fr2.mono (by decide))) f2))
      · refine q_sign_f _ f1 (fun J2 fr2 f2 => ?_)
        exact s_Book_read_16 (q_bk16_f f2 (h0 k q (bkR_l c e1) J2 ((frb.trans fr1).trans (fr2.mono (by decide))) f2))
theorem l_bk0 {x2 : Int32} : ∀ (d k : Nat) (J : II), k + d = 8 → FR [22] I J → (∀ j, j < k → J 22 j = -1) → (∀ K, FR [22] I K → (∀ j, j < 8 → K 22 j = -1) → t_Book_read_16 E K T Q x2 0 0) → t_Book_read_2 E J T Q x2 (nI k)
  | 0, k, J, hk, fr, h, hq => by
    have e : k = 8 := by omega
    subst e
    unfold t_Book_read_2
    exact bq_t (by decide) (hq J fr h)
  | d + 1, k, J, hk, fr, h, hq => by
    unfold t_Book_read_2
    refine bq_f (nI_ge (a := k) (b := 8) (by omega) (by omega)) ⟨gix (by omega) (by omega), ?_⟩
    rw [nI_clamp (by omega), nI_1]
    refine s_Book_read_2 (l_bk0 d (k + 1) _ (by omega) (fr.trans (FR.up (by decide) _ _)) (fun j hj => ?_) hq)
    rw [m_up_at]
    by_cases c : j = k
    · rw [if_pos c]
    · rw [if_neg c]; exact h j (by omega)
theorem q_bkRead (hF : F ≤ 8) (h : tC I N w 0) (h1 : ∀ l', bkR N w F 9 0 [] = .inr l' → okK F l' → ∀ p' K, FR [1, 22] I K → tC K N w p' → (∀ j, j < 8 → K 22 j = dv l' j) → Q (.inl none) (m_up (m_row K 21 (va_cpy (K 22) (K 21) 0 0 8)) 20 2 (nI l'.length)) T) (h0 : ∀ k q, bkR N w F 9 0 [] = .inl (k, q) → ∀ K, FR [1, 22] I K → fC K N w k q → Q (.inl none) K T) : ev E 171 0 [some (.ref 20), some (.ref 1), some (.int (nI F)), none, none] [] I T Q := by
  refine s_Book_read_0 ?_
  unfold t_Book_read_0
  refine l_bk0 (I := I) 8 0 I (by omega) (FR.refl _ _) (fun j hj => absurd hj (by omega)) (fun K fr h22 => ?_)
  have tK : tC K N w 0 := by
    unfold tC cB at h ⊢
    rw [fr 1 (by decide), fr 2 (by decide)]
    exact h
  have fr2 : FR [1, 22] I K := fr.mono (by decide)
  exact l_bk (I := I) hF 9 0 [] K rfl ⟨List.nodup_nil, fun x hx => by cases hx⟩ tK fr2 h22 h1 h0
/-! the reference's -/
def fb (I J : II) : Prop := (∀ c, c ≠ 46 → ¬ (417 ≤ c ∧ c < 425) → J c = I c) ∧ ∀ j, j ≠ 4 → j ≠ 5 → j ≠ 6 → J 46 j = I 46 j
theorem fm.fb {I J : II} (h : fm I J) : fb I J := ⟨fun c h1 _ => h.1 c (by simpa using h1), h.2⟩
theorem fb.trans {I J K : II} (h : fb I J) (k : fb J K) : fb I K := ⟨fun c a b => (k.1 c a b).trans (h.1 c a b), fun j a b c => (k.2 j a b c).trans (h.2 j a b c)⟩
theorem fb_up {I : II} {c j : Nat} (hc : 417 ≤ c ∧ c < 425) (v : Int32) : fb I (m_up I c j v) := ⟨fun d _ h => m_up_ne (fun e => h (by rw [e]; exact hc)), fun j _ _ _ => by rw [m_up_ne (by omega)]⟩
theorem qn_bk98_f {J : II} {k q : Nat} {x2 : Int32} (f : fM J N w k q) (hq : Q (.inl (some (.int (nI k - 10)))) (m_up J 46 3 (nI q)) T) : t_M_book_98 E J T Q x2 := by
  unfold t_M_book_98
  refine bq_f (fM_ne f) (qn_ends ?_)
  obtain ⟨-, a, -, b, -⟩ := f
  rw [a, b]
  exact hq
theorem qn_bk95_f {J : II} {k q : Nat} {x2 x3 : Int32} (f : fM J N w k q) (hq : ∀ K, fm J K → Q (.inl (some (.int (nI k - 10)))) (m_up K 46 3 (nI q)) T) : t_M_book_95 E J T Q x2 x3 := by
  unfold t_M_book_95
  obtain ⟨p, hp, h4⟩ := f.2.2.2.2
  refine qn_blanks f.1 hp h4 ?_
  refine s_M_book_29 ?_
  unfold t_M_book_29
  have f2 : fM (m_up J 46 4 (nI (bl N w p))) N w k q := ⟨f.1, f.2.1, f.2.2.1, f.2.2.2.1, _, (bl_le hp).2, rfl⟩
  exact bq_f (fM_ne f2) (qn_bk98_f f2 (hq _ (fm_4 _ _)))
theorem qn_bk63_f {J : II} {k q : Nat} {x2 x3 x5 : Int32} (f : fM J N w k q) (hq : ∀ K, fm J K → Q (.inl (some (.int (nI k - 10)))) (m_up K 46 3 (nI q)) T) : t_M_book_63 E J T Q x2 x3 x5 := by
  unfold t_M_book_63
  refine qn_num_f _ _ f ?_
  refine qn_sign_f _ f ?_
  exact bq_f (fM_ne f) (qn_bk95_f f hq)
theorem l_mbk (hF : F ≤ 8) : ∀ (d p : Nat) (l : List (Nat × Nat)) (m : Nat) (J : II), d + l.length = 9 → okK F l → m < 256 → (∀ f, f < 8 → (m.testBit f = true ↔ f ∈ l.map Prod.fst)) → tM J N w (bl N w p) → J 50 0 = nI F → fb I J → rw2 417 J l → (∀ l', bkR N w F d p l = .inr l' → okK F l' → ∀ p' K, fb I K → tM K N w p' → rw2 417 K l' → t_M_book_98 E K T Q (nI l'.length)) → (∀ k q, bkR N w F d p l = .inl (k, q) → ∀ K, fb I K → Q (.inl (some (.int (nI k - 10)))) (m_up K 46 3 (nI q)) T) → t_M_book_29 E J T Q (nI l.length) (nI m)
  | 0, p, l, m, J, hd, hl, _, _, _, _, _, _, _, _ => by
    have := okK_len hF hl
    omega
  | d + 1, p, l, m, J, hd, hl, hm, hmb, tJ, h50, fr, hr, h1, h0 => by
    have hlen := okK_len hF hl
    obtain ⟨hB, hp, h4, h5, h6⟩ := id tJ
    have n6 := hB.1
    unfold t_M_book_29
    refine bq_t h5 ?_
    rw [hB.2.2.1, h4]
    by_cases c : bl N w p = N
    · refine bq_t (by rw [c]; exact nI_le (Nat.le_refl _) (by omega)) ?_
      exact h1 l (bkR_e c) hl _ J fr tJ hr
    · refine bq_f (nI_ge (by omega) (by omega)) ?_
      refine qn_blanks hB hp h4 ?_
      have hpp : bl N w (bl N w p) = bl N w p := bl_fix hp (fun k => by
        by_cases c2 : p ≤ N
        · exact bl_no (N - p) p (by omega) k
        · exfalso
          unfold bl at k c
          rw [show N - p = 0 by omega] at k
          have : skb w 0 p = p := rfl
          omega)
      rw [hpp, up_same h4]
      have e50 : J 50 0 - 1 = nI F - 1 := by rw [h50]
      show ev E 71 0 [some (.ref 46), some (.int 0), some (.int (J 50 0 - 1)), none, none] [] J T _
      rw [e50]
      refine qn_num_t (lo := 0) (hi := F) (by omega) (by omega) tJ (fun f p1 e1 J1 f1 t1 => ?_) (fun k q e1 J1 f1 g1 => ?_)
      · have hf := (numR_in e1).2
        refine bq_t t1.2.2.2.1 ?_
        refine p_has _ _ ?_
        by_cases cm : m.testBit f = true
        · rw [if_pos ((bit_is hm (by omega)).mpr cm)]
          refine bq_f (by decide) ?_
          show ev E 69 0 [some (.ref 46), some (.int 2), some (.int (J 46 4))] [] J1 T _
          rw [h4]
          refine qn_wrong_t (k := 2) t1 (by omega) (fun J2 f2 g2 => ?_)
          have e2 := bkR_l (d := d) c (lineR_d e1 ((hmb f (by omega)).mp cm))
          rw [hpp] at e2
          exact qn_bk63_f g2 (fun K fK => h0 2 _ e2 K (fr.trans ((f1.trans f2).trans fK).fb))
        · rw [if_neg (fun z => cm ((bit_is hm (by omega)).mp z))]
          refine bq_t rfl ?_
          have nf : f ∉ l.map Prod.fst := fun z => cm ((hmb f (by omega)).mpr z)
          unfold t_M_book_63
          refine qn_num_t (lo := 0) (hi := 1000) (by omega) (by omega) t1 (fun v p2 e2 J2 f2 t2 => ?_) (fun k q e2 J2 f2 g2 => ?_)
          · have hv := (numR_in e2).2
            have eL := lineR_ok (l := l) e1 nf e2
            have hl2 : okK F ((f, v) :: l) := ⟨List.nodup_cons.mpr ⟨nf, hl.1⟩, fun y hy => by
              rcases List.mem_cons.mp hy with e | hy
              · rw [e]; exact ⟨hf, by show v ≤ 999; omega⟩
              · exact hl.2 y hy⟩
            have hlen2 := okK_len hF hl2
            rw [List.length_cons] at hlen2
            refine qn_sign_t (c := 59) (by omega) t2 (fun p3 e3 J3 f3 t3 => ?_) (fun k q e3 J3 f3 g3 => ?_)
            · refine bq_t t3.2.2.2.1 ⟨gix (by omega) (by omega), gix (by omega) (by omega), ?_⟩
              rw [nI_clamp (by omega), nI_1, shl_one ⟨f, by omega⟩, fa_or]
              show t_M_book_95 E (m_up (m_up J3 (417 + l.length) 0 (nI f)) (417 + l.length) 1 (nI v)) T Q (nI (l.length + 1)) (nI (m ||| 2 ^ f))
              unfold t_M_book_95
              have t4 : tM (m_up (m_up J3 (417 + l.length) 0 (nI f)) (417 + l.length) 1 (nI v)) N w p3 := tM_up (by omega) (by omega) (tM_up (by omega) (by omega) t3)
              refine qn_blanks t4.1 t4.2.1 t4.2.2.1 ?_
              rw [bkR_n c eL e3] at h1 h0
              have fr3 : fb I J3 := fr.trans ((f1.trans f2).trans f3).fb
              have fj : fm J J3 := (f1.trans f2).trans f3
              refine s_M_book_29 (l_mbk hF d p3 ((f, v) :: l) (m ||| 2 ^ f) _ (by rw [List.length_cons]; omega) hl2 ?_ (fun g hg => ?_) (tM_at t4 (bl_le t4.2.1).2) ?_ (((fr3.trans (fb_up (by omega) _)).trans (fb_up (by omega) _)).trans (fm_4 _ _).fb) ⟨⟨?_, ?_⟩, ?_⟩ h1 h0)
              · exact Nat.or_lt_two_pow (n := 8) hm (Nat.lt_of_lt_of_le (Nat.pow_lt_pow_right (by omega) (show f < 8 by omega)) (Nat.le_refl _))
              · rw [fb_bit_set, Bool.or_eq_true, hmb g hg, decide_eq_true_iff, List.map_cons, List.mem_cons]
                exact ⟨fun z => z.elim Or.inr Or.inl, fun z => z.elim Or.inr Or.inl⟩
              · rw [m_up_ne (by omega), m_up_ne (by omega), m_up_ne (by omega), fj.1 50 (by decide)]; exact h50
              · rw [m_up_ne (by omega), m_up_at, if_neg (by omega), m_up_at, if_pos rfl]
              · rw [m_up_ne (by omega), m_up_at, if_pos rfl]
              · refine rw2_of hr (fun j hj => ?_)
                rw [m_up_ne (by omega), m_up_ne (by omega), m_up_ne (by omega), fj.1 (417 + j) (by simp; omega)]
                exact ⟨rfl, rfl⟩
            · exact bq_f (fM_ne g3) (qn_bk95_f g3 (fun K fK => h0 k q (bkR_s c eL e3) K (fr.trans (((f1.trans f2).trans f3).trans fK).fb)))
          · refine qn_sign_f _ g2 ?_
            exact bq_f (fM_ne g2) (qn_bk95_f g2 (fun K fK => h0 k q (bkR_l c (lineR_m e1 nf e2)) K (fr.trans ((f1.trans f2).trans fK).fb)))
      · refine bq_f (fM_ne g1) ?_
        exact qn_bk63_f g1 (fun K fK => h0 k q (bkR_l c (lineR_n e1)) K (fr.trans (f1.trans fK).fb))
theorem mq_book {t : Nat} (hF : F ≤ 8) (ht : t ≤ 600) (h461 : I 46 1 = nI t) (hN : N ≤ t ∧ N ≤ 60) (h50 : I 50 0 = nI F) (hb : ∀ j, j < t → w j < 256 ∧ I 47 j = nI (w j)) (h1 : ∀ l', bkR N w F 9 0 [] = .inr l' → okK F l' → ∀ K, (∀ c, c ≠ 46 → ¬ (408 ≤ c ∧ c < 416) → ¬ (417 ≤ c ∧ c < 425) → K c = I c) → (∀ j, 9 ≤ j → j ≠ 33 → K 46 j = I 46 j) → K 46 0 = 0 → K 46 1 = 0 → K 46 3 = -1 → K 46 33 = nI l'.length → rw2 408 K l' → Q (.inl (some (.int (nI l'.length)))) K T) (h0 : ∀ k q, bkR N w F 9 0 [] = .inl (k, q) → ∀ K, (∀ c, c ≠ 46 → ¬ (417 ≤ c ∧ c < 425) → K c = I c) → (∀ j, 9 ≤ j → K 46 j = I 46 j) → K 46 0 = 0 → K 46 1 = 0 → K 46 3 = nI q → Q (.inl (some (.int (nI k - 10)))) K T) : ev E 173 0 [some (.ref 46), some (.int (nI N)), none, none, none, none, none] [] I T Q := by
  refine s_M_book_0 ?_
  unfold t_M_book_0
  show ev E 57 0 [some (.int (nI N)), some (.int 0), some (.int (I 46 1))] [] _ T _
  rw [h461]
  refine q_in _ _ _ ?_
  rw [wI_n hN.1 (by omega)]
  refine bq_f (by decide) (bq_t (nI_le (a := N) (b := 60) hN.2 (by omega)) ?_)
  unfold t_M_book_16
  refine qm_bad0 rfl _ _ (bq_t rfl ?_)
  refine qn_starts hN.1 ht hb (fun J frJ o46 tJ _ _ => ?_)
  have eC : ∀ c, c ≠ 46 → J c = I c := fun c hc => by rw [frJ c (by simpa using hc), m_up_ne hc]
  refine l_mbk (I := J) hF 9 0 [] 0 J rfl ⟨List.nodup_nil, fun x hx => by cases hx⟩ (by omega) (fun f _ => ?_) tJ (by rw [eC 50 (by decide)]; exact h50) ⟨fun _ _ _ => rfl, fun _ _ _ _ => rfl⟩ trivial (fun l eR hl p' K fK tK hr => ?_) (fun k q eR K fK => ?_)
  · rw [Nat.zero_testBit]; exact ⟨fun z => (by cases z), fun z => (by cases z)⟩
  · have hlen := okK_len hF hl
    unfold t_M_book_98
    refine bq_t tK.2.2.2.1 ?_
    refine q_lays_407 (by omega) (fun K2 a1 a2 => ?_)
    have k46 : ∀ j, j ≠ 3 → j ≠ 33 → K2 46 j = K 46 j := fun j x y => by rw [a1 46 (by omega), m_up_at, if_neg y, m_up_at, if_neg x]
    refine h1 l eR hl K2 (fun c x y z => ?_) (fun j x y => ?_) ?_ ?_ ?_ ?_ (rw2_of (c := 417) (J := K) hr (fun j hj => ?_))
    · rw [a1 c (by omega), m_up_ne x, m_up_ne x, fK.1 c x z, eC c x]
    · rw [k46 j (by omega) y, fK.2 j (by omega) (by omega) (by omega), o46 j (by omega), m_up_at, if_neg (by omega)]
    · rw [k46 0 (by omega) (by omega), fK.2 0 (by omega) (by omega) (by omega), o46 0 (by omega)]; rfl
    · rw [k46 1 (by omega) (by omega)]; exact tK.1.2.1
    · rw [a1 46 (by omega)]; rfl
    · rw [a1 46 (by omega)]; rfl
    · have := a2 j hj
      rw [m_up_ne (show 417 + j ≠ 46 by omega), m_up_ne (show 417 + j ≠ 46 by omega)] at this
      exact this
  · refine h0 k q eR _ (fun c x y => ?_) (fun j x => ?_) ?_ ?_ rfl
    · rw [m_up_ne x, fK.1 c x y, eC c x]
    · rw [m_up_at, if_neg (by omega), fK.2 j (by omega) (by omega) (by omega), o46 j (by omega), m_up_at, if_neg (by omega)]
    · rw [m_up_at, if_neg (by omega), fK.2 0 (by omega) (by omega) (by omega), o46 0 (by omega)]; rfl
    · rw [m_up_at, if_neg (by omega), fK.2 1 (by omega) (by omega) (by omega)]; exact tJ.1.2.1
theorem mq_book_b {t : Nat} {x : Int32} (ht : t ≤ 600) (h461 : I 46 1 = nI t) (c : ¬ ∃ n, n ≤ t ∧ n ≤ 60 ∧ x = nI n) (hq : ∀ v J, ro (m_up I 48 1 (I 48 1 + 1)) J → J 46 0 = 1 → Q (.inl (some (.int v))) J T) : ev E 173 0 [some (.ref 46), some (.int x), none, none, none, none, none] [] I T Q := by
  refine s_M_book_0 ?_
  unfold t_M_book_0
  show ev E 57 0 [some (.int x), some (.int 0), some (.int (I 46 1))] [] _ T _
  rw [h461]
  refine q_in _ _ _ ?_
  have fin : t_M_book_13 E (m_up I 46 0 0) T Q x := by
    unfold t_M_book_13 t_M_book_16
    refine qm_bad1 (j := 1) rfl (by decide) (by decide) ?_
    exact bq_f (by decide) (hq _ _ (ro_bad I _ _) rfl)
  by_cases d : okW x 0 (nI t)
  · rw [wI_t d]
    obtain ⟨j, h2, rfl⟩ := okW_nat (by omega) d
    have : 60 < j := Nat.lt_of_not_le (fun z => c ⟨j, h2, z, rfl⟩)
    exact bq_f (by decide) (bq_f (nI_ge (a := 60) (b := j) (by omega) (by omega)) fin)
  · rw [wI_f d]
    exact bq_t rfl fin
theorem o_book : op_ok Inv E t_W_main_187 := by
  intro I T Q i m hI hT hm hi hL hn
  have hG := TI_g hT hm
  obtain ⟨F, S, n, cd, hA⟩ := hI
  have hF := hA.1.F8
  unfold t_W_main_187
  generalize E.2.2 (nI i + 1).toNatClampNeg = a
  refine ⟨gsc 1 hi hL (by decide), ?_⟩
  refine s_W_book_0 ?_
  unfold t_W_book_0 t_W_book_9
  refine s_X_book_0 ?_
  unfold t_X_book_0 t_X_book_29
  obtain ⟨t, w, ht, h11, h461, hb⟩ := Tx_w hA.2.2.2.2.1
  refine q_needText (m := 60) hG ht (by omega) h11 a (fun ⟨N, hN1, hN2, e⟩ => ?_) (fun c => ?_)
  · subst e
    refine q_begin hN1 ht (fun j hj => ⟨(hb j hj).1, (hb j hj).2.2⟩) (fun J1 fr1 t1 => ?_)
    have e3 : J1 3 5 = nI F := by rw [fr1 3 (by decide)]; exact hA.1.1.1
    show ev E 171 0 [some (.ref 20), some (.ref 1), some (.int (J1 3 5)), none, none] [] J1 T _
    rw [e3]
    refine q_bkRead hF t1 (fun l eR hl p' K fK tK h22 => ?_) (fun k q eR K fK f => ?_)
    · have hlen := okK_len hF hl
      generalize hK2 : m_up (m_row K 21 (va_cpy (K 22) (K 21) 0 0 8)) 20 2 (nI l.length) = K2
      have fr2 : FR [1, 20, 21, 22] I K2 := by
        rw [← hK2]
        exact (((fr1.mono (by decide)).trans (fK.mono (by decide))).trans (FR.row (by decide) _)).trans (FR.up (by decide) _ _)
      have k1 : K2 1 = K 1 := by rw [← hK2, m_up_ne (by decide), m_row_ne (by decide)]
      have k2 : K2 2 = K 2 := by rw [← hK2, m_up_ne (by decide), m_row_ne (by decide)]
      have k20 : K2 20 2 = nI l.length := by rw [← hK2]; rfl
      have k21 : ∀ f, f < 8 → K2 21 f = dv l f := fun f hf => by
        rw [← hK2, m_up_ne (by decide), m_row_at, cpy_in hf]
        exact h22 f hf
      have t2 : tC K2 N w p' := by
        unfold tC cB at tK ⊢
        rw [k1, k2]
        exact tK
      refine q_isFine_t t2 (bq_f (by decide) ?_)
      refine ⟨gsc 1 hi hL (by decide), ?_⟩
      refine mq_book (w := w) hF ht (by rw [fr2 46 (by decide)]; exact h461) ⟨hN1, hN2⟩ (by rw [fr2 50 (by decide)]; exact hA.1.2.1.1) (fun j hj => by rw [fr2 47 (by decide)]; exact ⟨(hb j hj).1, (hb j hj).2.1⟩) (fun l' eR' hl' J2 a1 a2 a3 a4 a5 a6 a7 => ?_) (fun k q eR' => ?_)
      · rw [eR] at eR'
        have el : l = l' := by injection eR'
        subst el
        have kk : ∀ c, c ∉ [1, 20, 21, 22, 46] → ¬ (408 ≤ c ∧ c < 416) → ¬ (417 ≤ c ∧ c < 425) → J2 c = I c := fun c x y z => by
          rw [a1 c (by simp at x; omega) y z]
          exact fr2 c (by simp at x ⊢; omega)
        have k46 : ∀ j, 9 ≤ j → j ≠ 33 → J2 46 j = I 46 j := fun j x y => by rw [a2 j x y, fr2 46 (by decide)]
        obtain ⟨hC, hB, hSh, hIm, -, ⟨c1, c2, c3⟩, hSr⟩ := hA
        refine fin_ok a3 (fun _ => by show (K2 20 2).toInt64 = _; rw [k20]) (hn J2 _ ⟨F, S, n, cd, ?_, ⟨l.length, hlen, ?_, a6, fun j hj => ?_, fun f hf => ?_⟩, ?_, ?_, ⟨?_, 0, by omega, ?_, a4, fun j hj => absurd hj (by omega)⟩, ⟨?_, ?_, ?_⟩, ?_⟩ (TI_s hT))
        · exact hC.of (fun c hc => kk c (by unfold coreC at hc; simp; omega) (by unfold coreC at hc; omega) (by unfold coreC at hc; omega)) (k46 19 (by omega) (by omega)) (by rw [kk 29 (by decide) (by omega) (by omega), kk 508 (by decide) (by omega) (by omega)]; exact hC.2.2.2.2.2.2.1) (by rw [kk 29 (by decide) (by omega) (by omega)]; exact hC.rv)
        · rw [a1 20 (by omega) (by omega) (by omega)]; exact k20
        · obtain ⟨x, x1, x2, x3⟩ := rw2_at a7 j hj
          exact ⟨x.1, x.2, (hl.2 x x1).1, (hl.2 x x1).2, x2, x3, by rw [a1 21 (by omega) (by omega) (by omega), k21 x.1 (by have := (hl.2 x x1).1; omega)]; exact dv_in hl x x1⟩
        · rw [a1 21 (by omega) (by omega) (by omega), k21 f hf]
          by_cases z : f ∈ l.map Prod.fst
          · obtain ⟨x, x1, x2⟩ := List.mem_map.mp z
            obtain ⟨j, j1, j2⟩ := rw2_ex a7 x x1
            exact Or.inr ⟨j, j1, by rw [j2, x2]⟩
          · exact Or.inl ((dv_no hl f).mpr z)
        · exact hSh.of (fun c hc => kk c (by unfold shelC at hc; simp; omega) (by unfold shelC at hc; omega) (by unfold shelC at hc; omega)) (by rw [kk 32 (by decide) (by omega) (by omega)]) (k46 34 (by omega) (by omega))
        · exact hIm.of (fun c hc => kk c (by unfold imagC at hc; simp; omega) (by unfold imagC at hc; omega) (by unfold imagC at hc; omega)) (by rw [kk 32 (by decide) (by omega) (by omega)]) (k46 36 (by omega) (by omega))
        · rw [a1 1 (by omega) (by omega) (by omega), k1, a5]; exact tK.2.2.2.2
        · rw [a1 1 (by omega) (by omega) (by omega), k1]; exact tK.1.2.1
        · rw [kk 0 (by decide) (by omega) (by omega), k46 35 (by omega) (by omega)]; exact c1
        · rw [kk 0 (by decide) (by omega) (by omega), kk 48 (by decide) (by omega) (by omega)]; exact c2
        · rw [kk 0 (by decide) (by omega) (by omega), kk 48 (by decide) (by omega) (by omega)]; exact c3
        · exact Sr.sub hSr (fun c hc => kk c (by unfold serC at hc; simp; omega) (by unfold serC at hc; omega) (by unfold serC at hc; omega))
      · rw [eR] at eR'; cases eR'
    · have fr2 : FR [1, 22] I K := (fr1.mono (by decide)).trans fK
      refine q_isFine_f f (bq_t rfl ?_)
      refine ⟨gsc 1 hi hL (by decide), ?_⟩
      refine mq_book (w := w) hF ht (by rw [fr2 46 (by decide)]; exact h461) ⟨hN1, hN2⟩ (by rw [fr2 50 (by decide)]; exact hA.1.2.1.1) (fun j hj => by rw [fr2 47 (by decide)]; exact ⟨(hb j hj).1, (hb j hj).2.1⟩) (fun l' eR' => ?_) (fun k' q' eR' J2 a1 a2 a3 a4 a5 => ?_)
      · rw [eR] at eR'; cases eR'
      · rw [eR] at eR'
        cases eR'
        refine fin_ok a3 (fun _ => by show (K 1 5 - 10).toInt64 = _; rw [f.2.2.1]) (hn J2 _ ⟨F, S, n, cd, Inv_text hA (fun c hc => ?_) (fun j hj => ?_) ?_ ?_ a4⟩ (TI_s hT))
        · rw [a1 c (by unfold keepC coreC bookC shelC imagC at hc; omega) (by unfold keepC coreC bookC shelC imagC at hc; omega)]
          exact fr2 c (by unfold keepC coreC bookC shelC imagC at hc; simp; omega)
        · rw [a2 j (by omega), fr2 46 (by decide)]
        · rw [a1 1 (by omega) (by omega), a5]; exact f.2.2.2.2
        · rw [a1 1 (by omega) (by omega)]; exact f.1.2.1
  · refine ⟨rfl, ⟨gsc 1 hi hL (by decide), ?_⟩⟩
    refine mq_book_b (t := t) ht h461 c (fun v J hJ h0 => fin_ok h0 (fun q => absurd q (by decide)) (hn J _ (Inv_thr (x := 1) (by decide) ⟨F, S, n, cd, hA⟩ rfl (ro.refl _) hJ) (TI_x hT)))
end BOOK
