theorem w_0_0 : ∀ j : Fin 50, wfE 0 (0 + j.val) = true := by decide +kernel
theorem w_0_50 : ∀ j : Fin 50, wfE 0 (50 + j.val) = true := by decide +kernel
theorem w_0_100 : ∀ j : Fin 50, wfE 0 (100 + j.val) = true := by decide +kernel
theorem w_0_150 : ∀ j : Fin 50, wfE 0 (150 + j.val) = true := by decide +kernel
theorem w_0_200 : ∀ j : Fin 50, wfE 0 (200 + j.val) = true := by decide +kernel
theorem w_0_250 : ∀ j : Fin 50, wfE 0 (250 + j.val) = true := by decide +kernel
theorem w_0_300 : ∀ j : Fin 50, wfE 0 (300 + j.val) = true := by decide +kernel
theorem w_0_350 : ∀ j : Fin 50, wfE 0 (350 + j.val) = true := by decide +kernel
theorem w_0_400 : ∀ j : Fin 50, wfE 0 (400 + j.val) = true := by decide +kernel
theorem w_0_450 : ∀ j : Fin 50, wfE 0 (450 + j.val) = true := by decide +kernel
theorem w_0_500 : ∀ j : Fin 50, wfE 0 (500 + j.val) = true := by decide +kernel
theorem w_0_550 : ∀ j : Fin 50, wfE 0 (550 + j.val) = true := by decide +kernel
theorem w_0_600 : ∀ j : Fin 50, wfE 0 (600 + j.val) = true := by decide +kernel
theorem w_0_650 : ∀ j : Fin 50, wfE 0 (650 + j.val) = true := by decide +kernel
theorem w_0_700 : ∀ j : Fin 50, wfE 0 (700 + j.val) = true := by decide +kernel
theorem w_0_750 : ∀ j : Fin 50, wfE 0 (750 + j.val) = true := by decide +kernel
theorem w_0_800 : ∀ j : Fin 50, wfE 0 (800 + j.val) = true := by decide +kernel
theorem w_0_850 : ∀ j : Fin 50, wfE 0 (850 + j.val) = true := by decide +kernel
theorem w_0_900 : ∀ j : Fin 50, wfE 0 (900 + j.val) = true := by decide +kernel
theorem w_0_950 : ∀ j : Fin 50, wfE 0 (950 + j.val) = true := by decide +kernel
theorem w_0_1000 : ∀ j : Fin 50, wfE 0 (1000 + j.val) = true := by decide +kernel
theorem w_0_1050 : ∀ j : Fin 50, wfE 0 (1050 + j.val) = true := by decide +kernel
theorem w_0_1100 : ∀ j : Fin 50, wfE 0 (1100 + j.val) = true := by decide +kernel
theorem w_0_1150 : ∀ j : Fin 50, wfE 0 (1150 + j.val) = true := by decide +kernel
theorem w_0_1200 : ∀ j : Fin 50, wfE 0 (1200 + j.val) = true := by decide +kernel
theorem w_0_1250 : ∀ j : Fin 50, wfE 0 (1250 + j.val) = true := by decide +kernel
theorem w_0_1300 : ∀ j : Fin 50, wfE 0 (1300 + j.val) = true := by decide +kernel
theorem w_0_1350 : ∀ j : Fin 50, wfE 0 (1350 + j.val) = true := by decide +kernel
theorem w_0_1400 : ∀ j : Fin 50, wfE 0 (1400 + j.val) = true := by decide +kernel
theorem w_0_1450 : ∀ j : Fin 50, wfE 0 (1450 + j.val) = true := by decide +kernel
theorem w_0_1500 : ∀ j : Fin 47, wfE 0 (1500 + j.val) = true := by decide +kernel
theorem w_0_key (P : Nat → Bool) (h0 : ∀ j : Fin 50, P (0 + j.val) = true) (h50 : ∀ j : Fin 50, P (50 + j.val) = true) (h100 : ∀ j : Fin 50, P (100 + j.val) = true) (h150 : ∀ j : Fin 50, P (150 + j.val) = true) (h200 : ∀ j : Fin 50, P (200 + j.val) = true) (h250 : ∀ j : Fin 50, P (250 + j.val) = true) (h300 : ∀ j : Fin 50, P (300 + j.val) = true) (h350 : ∀ j : Fin 50, P (350 + j.val) = true) (h400 : ∀ j : Fin 50, P (400 + j.val) = true) (h450 : ∀ j : Fin 50, P (450 + j.val) = true) (h500 : ∀ j : Fin 50, P (500 + j.val) = true) (h550 : ∀ j : Fin 50, P (550 + j.val) = true) (h600 : ∀ j : Fin 50, P (600 + j.val) = true) (h650 : ∀ j : Fin 50, P (650 + j.val) = true) (h700 : ∀ j : Fin 50, P (700 + j.val) = true) (h750 : ∀ j : Fin 50, P (750 + j.val) = true) (h800 : ∀ j : Fin 50, P (800 + j.val) = true) (h850 : ∀ j : Fin 50, P (850 + j.val) = true) (h900 : ∀ j : Fin 50, P (900 + j.val) = true) (h950 : ∀ j : Fin 50, P (950 + j.val) = true) (h1000 : ∀ j : Fin 50, P (1000 + j.val) = true) (h1050 : ∀ j : Fin 50, P (1050 + j.val) = true) (h1100 : ∀ j : Fin 50, P (1100 + j.val) = true) (h1150 : ∀ j : Fin 50, P (1150 + j.val) = true) (h1200 : ∀ j : Fin 50, P (1200 + j.val) = true) (h1250 : ∀ j : Fin 50, P (1250 + j.val) = true) (h1300 : ∀ j : Fin 50, P (1300 + j.val) = true) (h1350 : ∀ j : Fin 50, P (1350 + j.val) = true) (h1400 : ∀ j : Fin 50, P (1400 + j.val) = true) (h1450 : ∀ j : Fin 50, P (1450 + j.val) = true) (h1500 : ∀ j : Fin 47, P (1500 + j.val) = true) : ∀ ip, ip < 1547 → P ip = true := by
  intro ip hip
  by_cases q0 : ip < 50
  · have := h0 ⟨ip - 0, by omega⟩
    rw [show 0 + (ip - 0) = ip by omega] at this
    exact this
  by_cases q50 : ip < 100
  · have := h50 ⟨ip - 50, by omega⟩
    rw [show 50 + (ip - 50) = ip by omega] at this
    exact this
  by_cases q100 : ip < 150
  · have := h100 ⟨ip - 100, by omega⟩
    rw [show 100 + (ip - 100) = ip by omega] at this
    exact this
  by_cases q150 : ip < 200
  · have := h150 ⟨ip - 150, by omega⟩
    rw [show 150 + (ip - 150) = ip by omega] at this
    exact this
  by_cases q200 : ip < 250
  · have := h200 ⟨ip - 200, by omega⟩
    rw [show 200 + (ip - 200) = ip by omega] at this
    exact this
  by_cases q250 : ip < 300
  · have := h250 ⟨ip - 250, by omega⟩
    rw [show 250 + (ip - 250) = ip by omega] at this
    exact this
  by_cases q300 : ip < 350
  · have := h300 ⟨ip - 300, by omega⟩
    rw [show 300 + (ip - 300) = ip by omega] at this
    exact this
  by_cases q350 : ip < 400
  · have := h350 ⟨ip - 350, by omega⟩
    rw [show 350 + (ip - 350) = ip by omega] at this
    exact this
  by_cases q400 : ip < 450
  · have := h400 ⟨ip - 400, by omega⟩
    rw [show 400 + (ip - 400) = ip by omega] at this
    exact this
  by_cases q450 : ip < 500
  · have := h450 ⟨ip - 450, by omega⟩
    rw [show 450 + (ip - 450) = ip by omega] at this
    exact this
  by_cases q500 : ip < 550
  · have := h500 ⟨ip - 500, by omega⟩
    rw [show 500 + (ip - 500) = ip by omega] at this
    exact this
  by_cases q550 : ip < 600
  · have := h550 ⟨ip - 550, by omega⟩
    rw [show 550 + (ip - 550) = ip by omega] at this
    exact this
  by_cases q600 : ip < 650
  · have := h600 ⟨ip - 600, by omega⟩
    rw [show 600 + (ip - 600) = ip by omega] at this
    exact this
  by_cases q650 : ip < 700
  · have := h650 ⟨ip - 650, by omega⟩
    rw [show 650 + (ip - 650) = ip by omega] at this
    exact this
  by_cases q700 : ip < 750
  · have := h700 ⟨ip - 700, by omega⟩
    rw [show 700 + (ip - 700) = ip by omega] at this
    exact this
  by_cases q750 : ip < 800
  · have := h750 ⟨ip - 750, by omega⟩
    rw [show 750 + (ip - 750) = ip by omega] at this
    exact this
  by_cases q800 : ip < 850
  · have := h800 ⟨ip - 800, by omega⟩
    rw [show 800 + (ip - 800) = ip by omega] at this
    exact this
  by_cases q850 : ip < 900
  · have := h850 ⟨ip - 850, by omega⟩
    rw [show 850 + (ip - 850) = ip by omega] at this
    exact this
  by_cases q900 : ip < 950
  · have := h900 ⟨ip - 900, by omega⟩
    rw [show 900 + (ip - 900) = ip by omega] at this
    exact this
  by_cases q950 : ip < 1000
  · have := h950 ⟨ip - 950, by omega⟩
    rw [show 950 + (ip - 950) = ip by omega] at this
    exact this
  by_cases q1000 : ip < 1050
  · have := h1000 ⟨ip - 1000, by omega⟩
    rw [show 1000 + (ip - 1000) = ip by omega] at this
    exact this
  by_cases q1050 : ip < 1100
  · have := h1050 ⟨ip - 1050, by omega⟩
    rw [show 1050 + (ip - 1050) = ip by omega] at this
    exact this
  by_cases q1100 : ip < 1150
  · have := h1100 ⟨ip - 1100, by omega⟩
    rw [show 1100 + (ip - 1100) = ip by omega] at this
    exact this
  by_cases q1150 : ip < 1200
  · have := h1150 ⟨ip - 1150, by omega⟩
    rw [show 1150 + (ip - 1150) = ip by omega] at this
    exact this
  by_cases q1200 : ip < 1250
  · have := h1200 ⟨ip - 1200, by omega⟩
    rw [show 1200 + (ip - 1200) = ip by omega] at this
    exact this
  by_cases q1250 : ip < 1300
  · have := h1250 ⟨ip - 1250, by omega⟩
    rw [show 1250 + (ip - 1250) = ip by omega] at this
    exact this
  by_cases q1300 : ip < 1350
  · have := h1300 ⟨ip - 1300, by omega⟩
    rw [show 1300 + (ip - 1300) = ip by omega] at this
    exact this
  by_cases q1350 : ip < 1400
  · have := h1350 ⟨ip - 1350, by omega⟩
    rw [show 1350 + (ip - 1350) = ip by omega] at this
    exact this
  by_cases q1400 : ip < 1450
  · have := h1400 ⟨ip - 1400, by omega⟩
    rw [show 1400 + (ip - 1400) = ip by omega] at this
    exact this
  by_cases q1450 : ip < 1500
  · have := h1450 ⟨ip - 1450, by omega⟩
    rw [show 1450 + (ip - 1450) = ip by omega] at this
    exact this
  by_cases q1500 : ip < 1547
  · have := h1500 ⟨ip - 1500, by omega⟩
    rw [show 1500 + (ip - 1500) = ip by omega] at this
    exact this
  exact absurd hip (by omega)
theorem w_0_cnt : m_cnt 0 = 1547 := by decide +kernel
theorem w_0 : ∀ ip, ip < m_cnt 0 → wfE 0 ip = true := fun ip hip => w_0_key (wfE 0) w_0_0 w_0_50 w_0_100 w_0_150 w_0_200 w_0_250 w_0_300 w_0_350 w_0_400 w_0_450 w_0_500 w_0_550 w_0_600 w_0_650 w_0_700 w_0_750 w_0_800 w_0_850 w_0_900 w_0_950 w_0_1000 w_0_1050 w_0_1100 w_0_1150 w_0_1200 w_0_1250 w_0_1300 w_0_1350 w_0_1400 w_0_1450 w_0_1500 ip (by rw [w_0_cnt] at hip; exact hip)
theorem wz_0 : ∀ a, a < 0 → (∀ ip, ip < m_cnt a → wfE a ip = true) ∧ (a ≠ 0 → wfY a = true) := lt_0
theorem wz_1 : ∀ a, a < 1 → (∀ ip, ip < m_cnt a → wfE a ip = true) ∧ (a ≠ 0 → wfY a = true) := lt_s wz_0 ⟨w_0, fun h => absurd rfl h⟩
