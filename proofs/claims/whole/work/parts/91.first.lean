/-! ===== the first heap ===== -/
theorem c29 : ∀ j : Fin 29, (29, j.val, row0 j.val) ∈ c_facts := by decide +kernel
theorem c508 : ∀ j : Fin 29, (508, j.val, row0 j.val) ∈ c_facts := by decide +kernel
theorem c21 : ∀ j : Fin 8, (21, j.val, (-1 : Int32)) ∈ c_facts := by decide +kernel
theorem c16 : ∀ j : Fin 7, (16, j.val, ccode (cd0 j.val)) ∈ c_facts := by decide +kernel
theorem Inv_first (I : II) (h : c_I0 I) : Inv I := by
  have f : ∀ c j v, (c, j, v) ∈ c_facts → I c j = v := fun c j v hm => h (c, j, v) hm
  have a : ∀ j, j < 29 → I 29 j = row0 j := fun j hj => f 29 j _ (c29 ⟨j, hj⟩)
  have b : ∀ j, j < 29 → I 508 j = row0 j := fun j hj => f 508 j _ (c508 ⟨j, hj⟩)
  refine ⟨0, 0, 7, cd0, ⟨⟨f 3 5 0 (by decide +kernel), by omega, f 3 6 0 (by decide +kernel), by omega⟩, ⟨f 50 0 0 (by decide +kernel), by omega, f 50 1 0 (by decide +kernel), by omega⟩, ⟨⟨dep0, lawW0⟩, ⟨f 15 4 7 (by decide +kernel), fun k hk => f 16 k _ (c16 ⟨k, hk⟩)⟩, Or.inr ⟨f 46 19 0 (by decide +kernel), rfl, rfl⟩⟩, fun f hf => absurd hf (Nat.not_lt_zero _), fun s hs => absurd hs (Nat.not_lt_zero _), ?_, ⟨fun j hj => ?_, ?_, ?_, ?_⟩, ⟨fun f hf => absurd hf (Nat.not_lt_zero _), fun f g hf => absurd hf (Nat.not_lt_zero _), fun f hf => absurd hf (Nat.not_lt_zero _), fun f hf => absurd hf (Nat.not_lt_zero _), 0, by omega, ?_⟩⟩, ⟨0, by omega, f 20 2 0 (by decide +kernel), f 46 33 0 (by decide +kernel), fun j hj => absurd hj (by omega), fun g hg => Or.inl (f 21 g _ (c21 ⟨g, hg⟩))⟩, ⟨0, by omega, f 32 3 0 (by decide +kernel), f 46 34 0 (by decide +kernel), fun k hk => absurd hk (by omega)⟩, ⟨0, by omega, f 32 4 0 (by decide +kernel), f 46 36 0 (by decide +kernel), fun k hk => absurd hk (by omega)⟩, ⟨?_, 0, by omega, f 1 1 0 (by decide +kernel), f 46 1 0 (by decide +kernel), fun j hj => absurd hj (by omega)⟩, ⟨?_, ?_, ?_⟩, Sr.zero (f 36 5 0 (by decide +kernel))⟩
  · rw [f 50 2 12 (by decide +kernel), f 3 7 12 (by decide +kernel)]
  · rw [b j (by omega), a j (by omega)]
  · rw [b 26 (by omega), a 28 (by omega)]; rfl
  · rw [b 27 (by omega), a 27 (by omega)]
  · rw [b 28 (by omega), a 26 (by omega)]; rfl
  · rw [a 25 (by omega)]; rfl
  · rw [f 1 6 (-1) (by decide +kernel), f 46 3 (-1) (by decide +kernel)]
  · rw [f 0 13 0 (by decide +kernel), f 46 35 0 (by decide +kernel)]
  · rw [f 0 14 0 (by decide +kernel), f 48 0 0 (by decide +kernel)]
  · rw [f 0 15 0 (by decide +kernel), f 48 1 0 (by decide +kernel)]
