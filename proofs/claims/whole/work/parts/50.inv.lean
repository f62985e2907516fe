/-! ===== the invariant ===== -/
theorem bq_t {c A B : Prop} (hc : c) (h : A) : (c → A) ∧ (¬ c → B) := ⟨fun _ => h, fun q => absurd hc q⟩
theorem bq_f {c A B : Prop} (hc : ¬ c) (h : B) : (c → A) ∧ (¬ c → B) := ⟨fun q => absurd q hc, fun _ => h⟩
theorem nr_t {c A B : Prop} (hc : c) (h : B) : (¬ c → A) ∧ (c → B) := ⟨fun q => absurd hc q, fun _ => h⟩
/-- FORCE of a feeling at a place in a team of so many -/
def frA (B : II) (n : Nat) (cd : Nat → Nat × Int32) (f : Nat) (p z : Int32) : Int32 := lawF n cd (vf (B 4 f) (B 5 f) (B 29 (8 + f)) (B 29 (16 + f)) p (B 29 25) z (B 29 24))
abbrev SG : Type := Int32 × Int32 × (Nat → Int32)
def swS (fr : Nat → Int32 → Int32 → Int32) (tk : Nat → Int32) (z : Int32) (p : Nat) (a : Int32 × Int32) : Int32 × Int32 := if tk p = -1 then a else (a.1 + fr (tk p).toNatClampNeg (nI p) z, a.2 + (if (nI p &&& 1) = 0 then fr (tk p).toNatClampNeg (nI p) z else 0 - fr (tk p).toNatClampNeg (nI p) z))
def sw4 (fr : Nat → Int32 → Int32 → Int32) (tk : Nat → Int32) (z : Int32) : Int32 × Int32 := rep (swS fr tk z) 4 0 (0, 0)
/-- a way is better than the best: strength, tilt -/
def bet (len turn bears : Int32) (a : Int32 × Int32) (s : SG) : Bool := decide (outc len turn bears a.1 (ab a.2) = 2) && (decide (¬ a.1 < s.1) && (decide (¬ a.1 = s.1) || decide (ab a.2 < s.2.1)))
def cmpS (len turn bears : Int32) (fr : Nat → Int32 → Int32 → Int32) (z : Int32) (tk : Nat → Int32) (s : SG) : SG := if bet len turn bears (sw4 fr tk z) s = true then ((sw4 fr tk z).1, ab (sw4 fr tk z).2, tk) else s
/-- all ways, place by place -/
def fillS (F : Nat) (fo : Nat → Int32) (cmp : Int32 → (Nat → Int32) → SG → SG) : Nat → Nat → Int32 → Int32 → (Nat → Int32) → SG → SG
  | 0, _, team, _, tk, s => cmp team tk s
  | k + 1, p, team, foes, tk, s => fillS F fo cmp k (p + 1) team foes (upd tk p (-1)) (rep (fun f s => if (((team ||| foes) >>> (nI f &&& 31)) &&& 1) = 0 then fillS F fo cmp k (p + 1) (team ||| ((1 : Int32) <<< (nI f &&& 31))) (foes ||| fo f) (upd tk p (nI f)) s else s) F 0 s)
def findS (B : II) (F n : Nat) (cd : Nat → Nat × Int32) (s : Nat) : SG := fillS F (B 6) (fun team tk σ => cmpS (B 7 s) (B 8 s) (B 3 7) (frA B n cd) (ones team) tk σ) 4 0 0 0 (fun _ => -1) (-1, -1, fun _ => -1)
/-- the house, the law and the row, by both -/
def Core (B : II) (F S n : Nat) (cd : Nat → Nat × Int32) : Prop := hN B F S ∧ mN B F S ∧ lawR B n cd ∧ (∀ f, f < F → B (61 + f) 0 = B 4 f ∧ B (61 + f) 1 = B 5 f ∧ B 84 f = B 6 f ∧ (∃ p, p ≤ 20 ∧ B 4 f = nI p) ∧ (∃ c, c ≤ 9 ∧ B 5 f = nI c) ∧ ∃ m, m < 256 ∧ B 6 f = nI m) ∧ (∀ s, s < S → B (77 + s) 0 = B 7 s ∧ B (77 + s) 1 = B 8 s ∧ (∃ l, 1 ≤ l ∧ l ≤ 60 ∧ B 7 s = nI l) ∧ ∃ t, t ≤ 9 ∧ B 8 s = nI t) ∧ B 50 2 = B 3 7 ∧ rowR (B 29) (B 508) ∧ rowV (B 29) F S
def Bk (B : II) (F : Nat) : Prop := ∃ k, k ≤ 8 ∧ B 20 2 = nI k ∧ B 46 33 = nI k ∧ (∀ j, j < k → ∃ f v, f < F ∧ v ≤ 999 ∧ B (408 + j) 0 = nI f ∧ B (408 + j) 1 = nI v ∧ B 21 f = nI v) ∧ ∀ f, f < 8 → B 21 f = -1 ∨ ∃ j, j < k ∧ B (408 + j) 0 = nI f
def Sh (B : II) (F S : Nat) : Prop := ∃ w, w ≤ 16 ∧ B 32 3 = nI w ∧ B 46 34 = nI w ∧ ∀ k, k < w → rowR (fun j => B 33 (29 * k + j)) (B (511 + k)) ∧ rowV (fun j => B 33 (29 * k + j)) F S
def Im (B : II) (F S : Nat) : Prop := ∃ m, m ≤ 3 ∧ B 32 4 = nI m ∧ B 46 36 = nI m ∧ ∀ i, i < m → ∃ w, w ≤ 16 ∧ B 35 i = nI w ∧ B (528 + i) 0 = nI w ∧ rowR (fun j => B 34 (493 * i + 464 + j)) (fun j => B (528 + i) (1 + j)) ∧ rowV (fun j => B 34 (493 * i + 464 + j)) F S ∧ ∀ k, k < w → rowR (fun j => B 34 (493 * i + 29 * k + j)) (fun j => B (528 + i) (30 + 29 * k + j)) ∧ rowV (fun j => B 34 (493 * i + 29 * k + j)) F S
def Tx (B : II) : Prop := B 1 6 = B 46 3 ∧ ∃ t, t ≤ 600 ∧ B 1 1 = nI t ∧ B 46 1 = nI t ∧ ∀ j, j < t → ∃ b, b < 256 ∧ B 47 j = nI b ∧ B 2 j = (nI b).toInt8.toInt32
def Ct (B : II) : Prop := B 0 13 = B 46 35 ∧ B 0 14 = B 48 0 ∧ B 0 15 = B 48 1
def Sr (B : II) (F S n : Nat) (cd : Nat → Nat × Int32) : Prop := (∃ k, k < 64 ∧ B 36 5 = nI k) ∧ ∀ s, s < S → (((B 36 5) >>> (nI s &&& 31)) &&& 1) = 1 → B 40 s = (findS B F n cd s).1 ∧ B 41 s = (findS B F n cd s).2.1 ∧ ∀ p, p < 4 → B 39 (4 * s + p) = (findS B F n cd s).2.2 p
def InvA (B : II) (F S n : Nat) (cd : Nat → Nat × Int32) : Prop := Core B F S n cd ∧ Bk B F ∧ Sh B F S ∧ Im B F S ∧ Tx B ∧ Ct B ∧ Sr B F S n cd
def Inv (B : II) : Prop := ∃ F S n cd, InvA B F S n cd
/-- what only calls that ask write -/
abbrev SCR : List Nat := [0, 18, 19, 28, 30, 31, 37, 38, 43, 44, 45, 46, 425, 426, 509, 531, 532, 533, 534]
def ro (B I : II) : Prop := FR SCR B I ∧ (∀ j, j ≠ 12 → I 0 j = B 0 j) ∧ ∀ j, j ≠ 0 → j ≠ 42 → j ≠ 43 → j ≠ 47 → I 46 j = B 46 j
theorem ro.refl (B : II) : ro B B := ⟨FR.refl _ _, fun _ _ => rfl, fun _ _ _ _ _ => rfl⟩
theorem ro.trans {B I J : II} (h : ro B I) (k : ro I J) : ro B J := ⟨h.1.trans k.1, fun j hj => (k.2.1 j hj).trans (h.2.1 j hj), fun j a b c d => (k.2.2 j a b c d).trans (h.2.2 j a b c d)⟩
/-- cells that any asking writes, whole -/
abbrev SCC : List Nat := [18, 19, 28, 30, 31, 37, 38, 43, 44, 45, 425, 426, 509, 531, 532, 533, 534]
theorem FR.ro {L : List Nat} {I J : II} (h : FR L I J) (hL : ∀ c, c ∈ L → c ∈ SCC) : ro I J := by
  have h0 : (0 : Nat) ∉ L := fun q => absurd (hL 0 q) (by decide)
  have h46 : (46 : Nat) ∉ L := fun q => absurd (hL 46 q) (by decide)
  refine ⟨h.mono (fun c hc => ?_), fun j _ => by rw [h 0 h0], fun j _ _ _ _ => by rw [h 46 h46]⟩
  have : ∀ c, c ∈ SCC → c ∈ SCR := by decide
  exact this c (hL c hc)
theorem ro_thrown (I : II) (v : Int32) : ro I (m_up I 46 0 v) := by
  refine ⟨FR.up (by decide) _ _, fun j _ => rfl, fun j h _ _ _ => ?_⟩
  rw [m_up_at, if_neg h]
theorem ro_46 (I : II) {i : Nat} (hi : i = 0 ∨ i = 42 ∨ i = 43 ∨ i = 47) (v : Int32) : ro I (m_up I 46 i v) := by
  refine ⟨FR.up (by decide) _ _, fun j _ => rfl, fun j h0 h1 h2 h3 => ?_⟩
  rw [m_up_at, if_neg (by omega)]
theorem ro_seed (I : II) (v : Int32) : ro I (m_up I 0 12 v) := by
  refine ⟨FR.up (by decide) _ _, fun j h => ?_, fun j _ _ _ _ => rfl⟩
  rw [m_up_at, if_neg h]
theorem ro_row (I : II) {c : Nat} (hc : c ∈ SCC) (r : Nat → Int32) : ro I (m_row I c r) := FR.ro (L := [c]) (FR.row (by simp) r) (by simpa using hc)
theorem ro_up (I : II) {c : Nat} (hc : c ∈ SCC) (j : Nat) (v : Int32) : ro I (m_up I c j v) := FR.ro (L := [c]) (FR.up (by simp) j v) (by simpa using hc)
theorem ro.cell {B I : II} (h : ro B I) {c : Nat} (hc : c ∉ SCR) : I c = B c := h.1 c hc
theorem scr_rng {c a b : Nat} (h1 : a ≤ c) (h2 : c < b) (h : (List.range' a (b - a)).all (fun c => decide (c ∉ SCR)) = true) : c ∉ SCR := of_decide_eq_true (List.all_eq_true.mp h c (List.mem_range'_1.mpr ⟨h1, by omega⟩))
theorem lawR.ro {B I : II} {n : Nat} {cd : Nat → Nat × Int32} (h : ro B I) (hr : lawR B n cd) : lawR I n cd := by
  obtain ⟨⟨dep, hw⟩, hc, hm⟩ := hr
  refine ⟨⟨dep, hw⟩, ⟨by rw [h.cell (by decide)]; exact hc.1, fun k hk => by rw [h.cell (c := 16) (by decide)]; exact hc.2 k hk⟩, ?_⟩
  rcases hm with ⟨h1, hm⟩ | ⟨h1, h2, h3⟩
  · have := hw.2.2.1
    refine Or.inl ⟨h1, by rw [h.2.2 19 (by decide) (by decide) (by decide) (by decide)]; exact hm.1, fun k hk => ?_⟩
    rw [h.cell (c := 86 + k) (scr_rng (a := 86) (b := 236) (by omega) (by omega) (by decide))]
    exact hm.2 k hk
  · exact Or.inr ⟨by rw [h.2.2 19 (by decide) (by decide) (by decide) (by decide)]; exact h1, h2, h3⟩
theorem hN.ro {B I : II} {F S : Nat} (h : ro B I) (hr : hN B F S) : hN I F S := by
  unfold hN at hr ⊢
  rw [h.cell (c := 3) (by decide)]
  exact hr
theorem mN.ro {B I : II} {F S : Nat} (h : ro B I) (hr : mN B F S) : mN I F S := by
  unfold mN at hr ⊢
  rw [h.cell (c := 50) (by decide)]
  exact hr
theorem findS_ro {B I : II} (h : ro B I) (F n : Nat) (cd : Nat → Nat × Int32) (s : Nat) : findS I F n cd s = findS B F n cd s := by
  unfold findS frA
  rw [h.cell (c := 6) (by decide), h.cell (c := 7) (by decide), h.cell (c := 8) (by decide), h.cell (c := 3) (by decide), h.cell (c := 4) (by decide), h.cell (c := 5) (by decide), h.cell (c := 29) (by decide)]
theorem Core.ro {B I : II} {F S n : Nat} {cd : Nat → Nat × Int32} (h : ro B I) (hr : Core B F S n cd) : Core I F S n cd := by
  obtain ⟨h1, h2, h3, h4, h5, h6, h7, h8⟩ := hr
  have b1 := h1.2.1
  have b2 := h1.2.2.2
  refine ⟨h1.ro h, h2.ro h, h3.ro h, fun f hf => ?_, fun s hs => ?_, ?_, ?_, ?_⟩
  · rw [h.cell (c := 61 + f) (scr_rng (a := 61) (b := 69) (by omega) (by omega) (by decide)), h.cell (c := 4) (by decide), h.cell (c := 5) (by decide), h.cell (c := 6) (by decide), h.cell (c := 84) (by decide)]
    exact h4 f hf
  · rw [h.cell (c := 77 + s) (scr_rng (a := 77) (b := 83) (by omega) (by omega) (by decide)), h.cell (c := 7) (by decide), h.cell (c := 8) (by decide)]
    exact h5 s hs
  · rw [h.cell (c := 50) (by decide), h.cell (c := 3) (by decide)]; exact h6
  · rw [h.cell (c := 29) (by decide), h.cell (c := 508) (by decide)]; exact h7
  · rw [h.cell (c := 29) (by decide)]; exact h8
theorem Bk.ro {B I : II} {F : Nat} (h : ro B I) (hr : Bk B F) : Bk I F := by
  obtain ⟨k, h1, h2, h3, h4, h5⟩ := hr
  refine ⟨k, h1, by rw [h.cell (c := 20) (by decide)]; exact h2, by rw [h.2.2 33 (by decide) (by decide) (by decide) (by decide)]; exact h3, fun j hj => ?_, fun f hf => ?_⟩
  · rw [h.cell (c := 408 + j) (scr_rng (a := 408) (b := 416) (by omega) (by omega) (by decide)), h.cell (c := 21) (by decide)]
    exact h4 j hj
  · rw [h.cell (c := 21) (by decide)]
    rcases h5 f hf with q | ⟨j, q1, q2⟩
    · exact Or.inl q
    · refine Or.inr ⟨j, q1, ?_⟩
      rw [h.cell (c := 408 + j) (scr_rng (a := 408) (b := 416) (by omega) (by omega) (by decide))]
      exact q2
theorem Sh.ro {B I : II} {F S : Nat} (h : ro B I) (hr : Sh B F S) : Sh I F S := by
  obtain ⟨w, h1, h2, h3, h4⟩ := hr
  refine ⟨w, h1, by rw [h.cell (c := 32) (by decide)]; exact h2, by rw [h.2.2 34 (by decide) (by decide) (by decide) (by decide)]; exact h3, fun k hk => ?_⟩
  rw [h.cell (c := 33) (by decide), h.cell (c := 511 + k) (scr_rng (a := 511) (b := 527) (by omega) (by omega) (by decide))]
  exact h4 k hk
theorem Im.ro {B I : II} {F S : Nat} (h : ro B I) (hr : Im B F S) : Im I F S := by
  obtain ⟨m, h1, h2, h3, h4⟩ := hr
  refine ⟨m, h1, by rw [h.cell (c := 32) (by decide)]; exact h2, by rw [h.2.2 36 (by decide) (by decide) (by decide) (by decide)]; exact h3, fun i hi => ?_⟩
  rw [h.cell (c := 34) (by decide), h.cell (c := 35) (by decide), h.cell (c := 528 + i) (scr_rng (a := 528) (b := 531) (by omega) (by omega) (by decide))]
  exact h4 i hi
theorem Tx.ro {B I : II} (h : ro B I) (hr : Tx B) : Tx I := by
  obtain ⟨h0, t, h1, h2, h3, h4⟩ := hr
  refine ⟨by rw [h.cell (c := 1) (by decide), h.2.2 3 (by decide) (by decide) (by decide) (by decide)]; exact h0, t, h1, by rw [h.cell (c := 1) (by decide)]; exact h2, by rw [h.2.2 1 (by decide) (by decide) (by decide) (by decide)]; exact h3, fun j hj => ?_⟩
  rw [h.cell (c := 47) (by decide), h.cell (c := 2) (by decide)]
  exact h4 j hj
theorem Ct.ro {B I : II} (h : ro B I) (hr : Ct B) : Ct I := by
  obtain ⟨h1, h2, h3⟩ := hr
  refine ⟨?_, ?_, ?_⟩
  · rw [h.2.1 13 (by decide), h.2.2 35 (by decide) (by decide) (by decide) (by decide)]; exact h1
  · rw [h.2.1 14 (by decide), h.cell (c := 48) (by decide)]; exact h2
  · rw [h.2.1 15 (by decide), h.cell (c := 48) (by decide)]; exact h3
theorem Sr.ro {B I : II} {F S n : Nat} {cd : Nat → Nat × Int32} (h : ro B I) (hr : Sr B F S n cd) : Sr I F S n cd := by
  obtain ⟨h1, h2⟩ := hr
  refine ⟨by rw [h.cell (c := 36) (by decide)]; exact h1, fun s hs q => ?_⟩
  rw [h.cell (c := 36) (by decide)] at q
  rw [h.cell (c := 40) (by decide), h.cell (c := 41) (by decide), h.cell (c := 39) (by decide), findS_ro h]
  exact h2 s hs q
theorem InvA.ro {B I : II} {F S n : Nat} {cd : Nat → Nat × Int32} (h : ro B I) (hr : InvA B F S n cd) : InvA I F S n cd := ⟨hr.1.ro h, hr.2.1.ro h, hr.2.2.1.ro h, hr.2.2.2.1.ro h, hr.2.2.2.2.1.ro h, hr.2.2.2.2.2.1.ro h, hr.2.2.2.2.2.2.ro h⟩
theorem Inv.ro {B I : II} (h : ro B I) (hr : Inv B) : Inv I := by
  obtain ⟨F, S, n, cd, hr⟩ := hr
  exact ⟨F, S, n, cd, hr.ro h⟩
