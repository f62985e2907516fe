/-! ===== contracts: FORCE of a feeling ===== -/
/-- nothing but these cells is written -/
def FR (L : List Nat) (I I' : II) : Prop := ∀ c, c ∉ L → I' c = I c
theorem FR.refl (L : List Nat) (I : II) : FR L I I := fun _ _ => rfl
theorem FR.trans {L : List Nat} {I I1 I2 : II} (h : FR L I I1) (h2 : FR L I1 I2) : FR L I I2 := fun c hc => (h2 c hc).trans (h c hc)
theorem FR.mono {L L2 : List Nat} {I I1 : II} (h : FR L I I1) (hL : ∀ c, c ∈ L → c ∈ L2) : FR L2 I I1 := fun c hc => h c (fun q => hc (hL c q))
theorem FR.row {L : List Nat} {I : II} {c : Nat} (hc : c ∈ L) (s : Nat → Int32) : FR L I (m_row I c s) := fun d hd => m_row_ne (fun e => hd (by rw [e]; exact hc))
theorem FR.up {L : List Nat} {I : II} {c : Nat} (hc : c ∈ L) (j : Nat) (v : Int32) : FR L I (m_up I c j v) := fun d hd => m_up_ne (fun e => hd (by rw [e]; exact hc))
/-- cells of the LAW -/
def lawL (L : List Nat) : Prop := 15 ∉ L ∧ 16 ∉ L ∧ 46 ∉ L ∧ ∀ k, k < 150 → 86 + k ∉ L
theorem lawR.keep {L : List Nat} (hL : lawL L) {I I' : II} {n : Nat} {cd : Nat → Nat × Int32} (hF : FR L I I') (h : lawR I n cd) : lawR I' n cd := by
  obtain ⟨⟨dep, hw⟩, hc, hm⟩ := h
  obtain ⟨l1, l2, l3, l4⟩ := hL
  refine ⟨⟨dep, hw⟩, ⟨by rw [hF 15 l1]; exact hc.1, fun k hk => by rw [hF 16 l2]; exact hc.2 k hk⟩, ?_⟩
  rcases hm with ⟨h1, hm⟩ | ⟨h1, h2, h3⟩
  · have := hw.2.2.1
    exact Or.inl ⟨h1, by rw [hF 46 l3]; exact hm.1, fun k hk => by rw [hF (86 + k) (l4 k (by omega))]; exact hm.2 k hk⟩
  · exact Or.inr ⟨by rw [hF 46 l3]; exact h1, h2, h3⟩
theorem hN.keep {L : List Nat} (hL : 3 ∉ L) {I I' : II} {F S : Nat} (hF : FR L I I') (h : hN I F S) : hN I' F S := by
  unfold hN at h ⊢
  rw [hF 3 hL]
  exact h
theorem mN.keep {L : List Nat} (hL : 50 ∉ L) {I I' : II} {F S : Nat} (hF : FR L I I') (h : mN I F S) : mN I' F S := by
  unfold mN at h ⊢
  rw [hF 50 hL]
  exact h
/-- what the LAW is told of a feeling -/
def vf (a b t w p e z d : Int32) : Nat → Int32 := fun j => [a, b, t, w, p, e, z, d].getD j 0
theorem lawF_congr {I : II} {cd : Nat → Nat × Int32} {n : Nat} (hr : lawR I n cd) {u w : Nat → Int32} (hu : ∀ j, j < 8 → u j = w j) : lawF n cd u = lawF n cd w := by
  obtain ⟨⟨dep, hw⟩, -⟩ := hr
  exact lawF_of hw hu _
theorem j8 {P : Nat → Prop} (h0 : P 0) (h1 : P 1) (h2 : P 2) (h3 : P 3) (h4 : P 4) (h5 : P 5) (h6 : P 6) (h7 : P 7) : ∀ j, j < 8 → P j
  | 0, _ => h0
  | 1, _ => h1
  | 2, _ => h2
  | 3, _ => h3
  | 4, _ => h4
  | 5, _ => h5
  | 6, _ => h6
  | 7, _ => h7
  | j + 8, h => absurd h (by omega)
section FORCE
variable {E : MEnv} {I : II} {T : TT} {Q : QQ} {F S n : Nat} {cd : Nat → Nat × Int32}
theorem lawL_c : lawL [18, 19] := ⟨by decide, by decide, by decide, fun k hk => by simp; omega⟩
theorem lawL_m : lawL [425, 426] := ⟨by decide, by decide, by decide, fun k hk => by simp; omega⟩
/-- the class's LAW, once all is told -/
theorem p_told (hr : lawR I n cd) (a b t w p e z d : Int32) {I1 : II} (h1 : I1 = m_up (m_up (m_up (m_up (m_up (m_up (m_up (m_up I 18 0 a) 18 1 b) 18 2 t) 18 3 w) 18 4 p) 18 5 e) 18 6 z) 18 7 d) (hq : ∀ I', FR [18, 19] I I' → Q (.inl (some (.int (lawF n cd (vf a b t w p e z d))))) I' T) : ev E 130 0 [some (.ref 15), none, none, none] [] I1 T Q := by
  have m : (18 : Nat) ∈ [18, 19] := by decide
  have hF : FR [18, 19] I I1 := by
    subst h1
    exact (((((((FR.up m _ _).trans (FR.up m _ _)).trans (FR.up m _ _)).trans (FR.up m _ _)).trans (FR.up m _ _)).trans (FR.up m _ _)).trans (FR.up m _ _)).trans (FR.up m _ _)
  have hr1 := hr.keep lawL_c hF
  refine p_answer2 hr1 (fun s => ?_)
  have e9 : lawF n cd (I1 18) = lawF n cd (vf a b t w p e z d) := by
    subst h1
    exact lawF_congr hr1 (j8 rfl rfl rfl rfl rfl rfl rfl rfl)
  rw [e9]
  exact hq _ (hF.trans (FR.row (by decide) s))
/-- the reference's -/
theorem p_forceBy (hr : lawR I n cd) (a b t w p e z d : Int32) (hq : ∀ I', FR [425, 426] I I' → Q (.inl (some (.int (lawF n cd (vf a b t w p e z d))))) I' T) : ev E 159 0 [some (.ref 46), some (.int a), some (.int b), some (.int t), some (.int w), some (.int p), some (.int e), some (.int z), some (.int d)] [] I T Q := by
  refine s_M_forceBy_0 ?_
  unfold t_M_forceBy_0
  have m : (426 : Nat) ∈ [425, 426] := by decide
  have hF : FR [425, 426] I (m_up (m_up (m_up (m_up (m_up (m_up (m_up (m_up I 426 0 a) 426 1 b) 426 2 t) 426 3 w) 426 4 p) 426 5 e) 426 6 z) 426 7 d) :=
    (((((((FR.up m _ _).trans (FR.up m _ _)).trans (FR.up m _ _)).trans (FR.up m _ _)).trans (FR.up m _ _)).trans (FR.up m _ _)).trans (FR.up m _ _)).trans (FR.up m _ _)
  have hr1 := hr.keep lawL_m hF
  refine p_byLaw hr1 (fun s => ?_)
  have e9 : lawF n cd ((m_up (m_up (m_up (m_up (m_up (m_up (m_up (m_up I 426 0 a) 426 1 b) 426 2 t) 426 3 w) 426 4 p) 426 5 e) 426 6 z) 426 7 d) 426) = lawF n cd (vf a b t w p e z d) := lawF_congr hr1 (j8 rfl rfl rfl rfl rfl rfl rfl rfl)
  rw [e9]
  exact hq _ (hF.trans (FR.row (by decide) s))
/-- FORCE of a feeling, by the class -/
theorem p_forceOf_28 (h : hN I F S) (hr : lawR I n cd) {f : Nat} (hf : f < 2 ^ 30) (p z : Int32) (hq : ∀ I', FR [18, 19] I I' → Q (.inl (some (.int (lawF n cd (vf (if f < F then I 4 f else 0) (if f < F then I 5 f else 0) (if f < F then I 29 (8 + f) else 0) (if f < F then I 29 (16 + f) else 0) p (I 29 25) z (I 29 24)))))) I' T) : ev E 124 0 [some (.ref 28), some (.int (nI f)), some (.int p), some (.int z)] [] I T Q := by
  refine s_Coach_forceOf_28_0 ?_
  unfold t_Coach_forceOf_28_0
  refine p_pullOf h hf ?_
  refine p_calmOf h hf ?_
  refine p_tightOf_28 h hf ?_
  refine p_tiredOf_28 h hf ?_
  refine s_Law_tellFeeling_0 ?_
  refine p_behind_28 ?_
  refine p_day_28 ?_
  refine s_Law_tellRoad_0 ?_
  exact p_told hr _ _ _ _ _ _ _ _ rfl hq
/-- FORCE of a feeling, by the class -/
theorem p_forceOf_30 (h : hN I F S) (hr : lawR I n cd) {f : Nat} (hf : f < 2 ^ 30) (p z : Int32) (hq : ∀ I', FR [18, 19] I I' → Q (.inl (some (.int (lawF n cd (vf (if f < F then I 4 f else 0) (if f < F then I 5 f else 0) (if f < F then I 31 (8 + f) else 0) (if f < F then I 31 (16 + f) else 0) p (I 31 25) z (I 31 24)))))) I' T) : ev E 124 0 [some (.ref 30), some (.int (nI f)), some (.int p), some (.int z)] [] I T Q := by
  refine s_Coach_forceOf_30_0 ?_
  unfold t_Coach_forceOf_30_0
  refine p_pullOf h hf ?_
  refine p_calmOf h hf ?_
  refine p_tightOf_30 h hf ?_
  refine p_tiredOf_30 h hf ?_
  refine s_Law_tellFeeling_0 ?_
  refine p_behind_30 ?_
  refine p_day_30 ?_
  refine s_Law_tellRoad_0 ?_
  exact p_told hr _ _ _ _ _ _ _ _ rfl hq
/-- FORCE of a feeling, by the reference -/
theorem p_mforceOf_508 (hr : lawR I n cd) {f : Nat} (hf : f < 8) (p z : Int32) (hq : ∀ I', FR [425, 426] I I' → Q (.inl (some (.int (lawF n cd (vf (I (61 + f) 0) (I (61 + f) 1) (I 508 (8 + f)) (I 508 (16 + f)) p (I 508 25) z (I 508 24)))))) I' T) : ev E 158 0 [some (.ref 46), some (.ref 508), some (.int (nI f)), some (.int p), some (.int z)] [] I T Q := by
  refine s_M_forceOf_508_0 ?_
  unfold t_M_forceOf_508_0
  rw [z8, z16]
  refine ⟨gix hf (by omega), gix hf (by omega), gix (by omega) (by omega), gix (by omega) (by omega), ?_⟩
  rw [nI_clamp (by omega), nI_clamp (by omega), nI_clamp (by omega)]
  exact p_forceBy hr _ _ _ _ _ _ _ _ hq
/-- FORCE of a feeling, by the reference -/
theorem p_mforceOf_509 (hr : lawR I n cd) {f : Nat} (hf : f < 8) (p z : Int32) (hq : ∀ I', FR [425, 426] I I' → Q (.inl (some (.int (lawF n cd (vf (I (61 + f) 0) (I (61 + f) 1) (I 509 (8 + f)) (I 509 (16 + f)) p (I 509 25) z (I 509 24)))))) I' T) : ev E 158 0 [some (.ref 46), some (.ref 509), some (.int (nI f)), some (.int p), some (.int z)] [] I T Q := by
  refine s_M_forceOf_509_0 ?_
  unfold t_M_forceOf_509_0
  rw [z8, z16]
  refine ⟨gix hf (by omega), gix hf (by omega), gix (by omega) (by omega), gix (by omega) (by omega), ?_⟩
  rw [nI_clamp (by omega), nI_clamp (by omega), nI_clamp (by omega)]
  exact p_forceBy hr _ _ _ _ _ _ _ _ hq
end FORCE
