theorem w_1 : ∀ ip, ip < m_cnt 1 → wfE 1 ip = true := fun ip h => List.all_eq_true.mp (show (List.range (m_cnt 1)).all (wfE 1) = true by decide +kernel) ip (List.mem_range.mpr h)
theorem wy_1 : wfY 1 = true := by decide +kernel
theorem w_2 : ∀ ip, ip < m_cnt 2 → wfE 2 ip = true := fun ip h => List.all_eq_true.mp (show (List.range (m_cnt 2)).all (wfE 2) = true by decide +kernel) ip (List.mem_range.mpr h)
theorem wy_2 : wfY 2 = true := by decide +kernel
theorem w_3 : ∀ ip, ip < m_cnt 3 → wfE 3 ip = true := fun ip h => List.all_eq_true.mp (show (List.range (m_cnt 3)).all (wfE 3) = true by decide +kernel) ip (List.mem_range.mpr h)
theorem wy_3 : wfY 3 = true := by decide +kernel
theorem w_4 : ∀ ip, ip < m_cnt 4 → wfE 4 ip = true := fun ip h => List.all_eq_true.mp (show (List.range (m_cnt 4)).all (wfE 4) = true by decide +kernel) ip (List.mem_range.mpr h)
theorem wy_4 : wfY 4 = true := by decide +kernel
theorem w_5 : ∀ ip, ip < m_cnt 5 → wfE 5 ip = true := fun ip h => List.all_eq_true.mp (show (List.range (m_cnt 5)).all (wfE 5) = true by decide +kernel) ip (List.mem_range.mpr h)
theorem wy_5 : wfY 5 = true := by decide +kernel
theorem w_6 : ∀ ip, ip < m_cnt 6 → wfE 6 ip = true := fun ip h => List.all_eq_true.mp (show (List.range (m_cnt 6)).all (wfE 6) = true by decide +kernel) ip (List.mem_range.mpr h)
theorem wy_6 : wfY 6 = true := by decide +kernel
theorem w_7 : ∀ ip, ip < m_cnt 7 → wfE 7 ip = true := fun ip h => List.all_eq_true.mp (show (List.range (m_cnt 7)).all (wfE 7) = true by decide +kernel) ip (List.mem_range.mpr h)
theorem wy_7 : wfY 7 = true := by decide +kernel
theorem w_8 : ∀ ip, ip < m_cnt 8 → wfE 8 ip = true := fun ip h => List.all_eq_true.mp (show (List.range (m_cnt 8)).all (wfE 8) = true by decide +kernel) ip (List.mem_range.mpr h)
theorem wy_8 : wfY 8 = true := by decide +kernel
theorem w_9 : ∀ ip, ip < m_cnt 9 → wfE 9 ip = true := fun ip h => List.all_eq_true.mp (show (List.range (m_cnt 9)).all (wfE 9) = true by decide +kernel) ip (List.mem_range.mpr h)
theorem wy_9 : wfY 9 = true := by decide +kernel
theorem w_10 : ∀ ip, ip < m_cnt 10 → wfE 10 ip = true := fun ip h => List.all_eq_true.mp (show (List.range (m_cnt 10)).all (wfE 10) = true by decide +kernel) ip (List.mem_range.mpr h)
theorem wy_10 : wfY 10 = true := by decide +kernel
theorem w_11 : ∀ ip, ip < m_cnt 11 → wfE 11 ip = true := fun ip h => List.all_eq_true.mp (show (List.range (m_cnt 11)).all (wfE 11) = true by decide +kernel) ip (List.mem_range.mpr h)
theorem wy_11 : wfY 11 = true := by decide +kernel
theorem w_12 : ∀ ip, ip < m_cnt 12 → wfE 12 ip = true := fun ip h => List.all_eq_true.mp (show (List.range (m_cnt 12)).all (wfE 12) = true by decide +kernel) ip (List.mem_range.mpr h)
theorem wy_12 : wfY 12 = true := by decide +kernel
theorem w_13 : ∀ ip, ip < m_cnt 13 → wfE 13 ip = true := fun ip h => List.all_eq_true.mp (show (List.range (m_cnt 13)).all (wfE 13) = true by decide +kernel) ip (List.mem_range.mpr h)
theorem wy_13 : wfY 13 = true := by decide +kernel
theorem w_14 : ∀ ip, ip < m_cnt 14 → wfE 14 ip = true := fun ip h => List.all_eq_true.mp (show (List.range (m_cnt 14)).all (wfE 14) = true by decide +kernel) ip (List.mem_range.mpr h)
theorem wy_14 : wfY 14 = true := by decide +kernel
theorem w_15 : ∀ ip, ip < m_cnt 15 → wfE 15 ip = true := fun ip h => List.all_eq_true.mp (show (List.range (m_cnt 15)).all (wfE 15) = true by decide +kernel) ip (List.mem_range.mpr h)
theorem wy_15 : wfY 15 = true := by decide +kernel
theorem w_16 : ∀ ip, ip < m_cnt 16 → wfE 16 ip = true := fun ip h => List.all_eq_true.mp (show (List.range (m_cnt 16)).all (wfE 16) = true by decide +kernel) ip (List.mem_range.mpr h)
theorem wy_16 : wfY 16 = true := by decide +kernel
theorem w_17 : ∀ ip, ip < m_cnt 17 → wfE 17 ip = true := fun ip h => List.all_eq_true.mp (show (List.range (m_cnt 17)).all (wfE 17) = true by decide +kernel) ip (List.mem_range.mpr h)
theorem wy_17 : wfY 17 = true := by decide +kernel
theorem w_18 : ∀ ip, ip < m_cnt 18 → wfE 18 ip = true := fun ip h => List.all_eq_true.mp (show (List.range (m_cnt 18)).all (wfE 18) = true by decide +kernel) ip (List.mem_range.mpr h)
theorem wy_18 : wfY 18 = true := by decide +kernel
theorem w_19 : ∀ ip, ip < m_cnt 19 → wfE 19 ip = true := fun ip h => List.all_eq_true.mp (show (List.range (m_cnt 19)).all (wfE 19) = true by decide +kernel) ip (List.mem_range.mpr h)
theorem wy_19 : wfY 19 = true := by decide +kernel
theorem w_20 : ∀ ip, ip < m_cnt 20 → wfE 20 ip = true := fun ip h => List.all_eq_true.mp (show (List.range (m_cnt 20)).all (wfE 20) = true by decide +kernel) ip (List.mem_range.mpr h)
theorem wy_20 : wfY 20 = true := by decide +kernel
theorem w_21 : ∀ ip, ip < m_cnt 21 → wfE 21 ip = true := fun ip h => List.all_eq_true.mp (show (List.range (m_cnt 21)).all (wfE 21) = true by decide +kernel) ip (List.mem_range.mpr h)
theorem wy_21 : wfY 21 = true := by decide +kernel
theorem w_22 : ∀ ip, ip < m_cnt 22 → wfE 22 ip = true := fun ip h => List.all_eq_true.mp (show (List.range (m_cnt 22)).all (wfE 22) = true by decide +kernel) ip (List.mem_range.mpr h)
theorem wy_22 : wfY 22 = true := by decide +kernel
theorem w_23 : ∀ ip, ip < m_cnt 23 → wfE 23 ip = true := fun ip h => List.all_eq_true.mp (show (List.range (m_cnt 23)).all (wfE 23) = true by decide +kernel) ip (List.mem_range.mpr h)
theorem wy_23 : wfY 23 = true := by decide +kernel
theorem w_24 : ∀ ip, ip < m_cnt 24 → wfE 24 ip = true := fun ip h => List.all_eq_true.mp (show (List.range (m_cnt 24)).all (wfE 24) = true by decide +kernel) ip (List.mem_range.mpr h)
theorem wy_24 : wfY 24 = true := by decide +kernel
theorem w_25 : ∀ ip, ip < m_cnt 25 → wfE 25 ip = true := fun ip h => List.all_eq_true.mp (show (List.range (m_cnt 25)).all (wfE 25) = true by decide +kernel) ip (List.mem_range.mpr h)
theorem wy_25 : wfY 25 = true := by decide +kernel
theorem w_26 : ∀ ip, ip < m_cnt 26 → wfE 26 ip = true := fun ip h => List.all_eq_true.mp (show (List.range (m_cnt 26)).all (wfE 26) = true by decide +kernel) ip (List.mem_range.mpr h)
theorem wy_26 : wfY 26 = true := by decide +kernel
theorem w_27 : ∀ ip, ip < m_cnt 27 → wfE 27 ip = true := fun ip h => List.all_eq_true.mp (show (List.range (m_cnt 27)).all (wfE 27) = true by decide +kernel) ip (List.mem_range.mpr h)
theorem wy_27 : wfY 27 = true := by decide +kernel
theorem w_28 : ∀ ip, ip < m_cnt 28 → wfE 28 ip = true := fun ip h => List.all_eq_true.mp (show (List.range (m_cnt 28)).all (wfE 28) = true by decide +kernel) ip (List.mem_range.mpr h)
theorem wy_28 : wfY 28 = true := by decide +kernel
theorem w_29 : ∀ ip, ip < m_cnt 29 → wfE 29 ip = true := fun ip h => List.all_eq_true.mp (show (List.range (m_cnt 29)).all (wfE 29) = true by decide +kernel) ip (List.mem_range.mpr h)
theorem wy_29 : wfY 29 = true := by decide +kernel
theorem w_30 : ∀ ip, ip < m_cnt 30 → wfE 30 ip = true := fun ip h => List.all_eq_true.mp (show (List.range (m_cnt 30)).all (wfE 30) = true by decide +kernel) ip (List.mem_range.mpr h)
theorem wy_30 : wfY 30 = true := by decide +kernel
theorem w_31 : ∀ ip, ip < m_cnt 31 → wfE 31 ip = true := fun ip h => List.all_eq_true.mp (show (List.range (m_cnt 31)).all (wfE 31) = true by decide +kernel) ip (List.mem_range.mpr h)
theorem wy_31 : wfY 31 = true := by decide +kernel
theorem w_32 : ∀ ip, ip < m_cnt 32 → wfE 32 ip = true := fun ip h => List.all_eq_true.mp (show (List.range (m_cnt 32)).all (wfE 32) = true by decide +kernel) ip (List.mem_range.mpr h)
theorem wy_32 : wfY 32 = true := by decide +kernel
theorem w_33 : ∀ ip, ip < m_cnt 33 → wfE 33 ip = true := fun ip h => List.all_eq_true.mp (show (List.range (m_cnt 33)).all (wfE 33) = true by decide +kernel) ip (List.mem_range.mpr h)
theorem wy_33 : wfY 33 = true := by decide +kernel
theorem w_34 : ∀ ip, ip < m_cnt 34 → wfE 34 ip = true := fun ip h => List.all_eq_true.mp (show (List.range (m_cnt 34)).all (wfE 34) = true by decide +kernel) ip (List.mem_range.mpr h)
theorem wy_34 : wfY 34 = true := by decide +kernel
theorem w_35 : ∀ ip, ip < m_cnt 35 → wfE 35 ip = true := fun ip h => List.all_eq_true.mp (show (List.range (m_cnt 35)).all (wfE 35) = true by decide +kernel) ip (List.mem_range.mpr h)
theorem wy_35 : wfY 35 = true := by decide +kernel
theorem w_36 : ∀ ip, ip < m_cnt 36 → wfE 36 ip = true := fun ip h => List.all_eq_true.mp (show (List.range (m_cnt 36)).all (wfE 36) = true by decide +kernel) ip (List.mem_range.mpr h)
theorem wy_36 : wfY 36 = true := by decide +kernel
theorem w_37 : ∀ ip, ip < m_cnt 37 → wfE 37 ip = true := fun ip h => List.all_eq_true.mp (show (List.range (m_cnt 37)).all (wfE 37) = true by decide +kernel) ip (List.mem_range.mpr h)
theorem wy_37 : wfY 37 = true := by decide +kernel
theorem w_38 : ∀ ip, ip < m_cnt 38 → wfE 38 ip = true := fun ip h => List.all_eq_true.mp (show (List.range (m_cnt 38)).all (wfE 38) = true by decide +kernel) ip (List.mem_range.mpr h)
theorem wy_38 : wfY 38 = true := by decide +kernel
theorem w_39 : ∀ ip, ip < m_cnt 39 → wfE 39 ip = true := fun ip h => List.all_eq_true.mp (show (List.range (m_cnt 39)).all (wfE 39) = true by decide +kernel) ip (List.mem_range.mpr h)
theorem wy_39 : wfY 39 = true := by decide +kernel
theorem w_40 : ∀ ip, ip < m_cnt 40 → wfE 40 ip = true := fun ip h => List.all_eq_true.mp (show (List.range (m_cnt 40)).all (wfE 40) = true by decide +kernel) ip (List.mem_range.mpr h)
theorem wy_40 : wfY 40 = true := by decide +kernel
theorem w_41 : ∀ ip, ip < m_cnt 41 → wfE 41 ip = true := fun ip h => List.all_eq_true.mp (show (List.range (m_cnt 41)).all (wfE 41) = true by decide +kernel) ip (List.mem_range.mpr h)
theorem wy_41 : wfY 41 = true := by decide +kernel
theorem w_42 : ∀ ip, ip < m_cnt 42 → wfE 42 ip = true := fun ip h => List.all_eq_true.mp (show (List.range (m_cnt 42)).all (wfE 42) = true by decide +kernel) ip (List.mem_range.mpr h)
theorem wy_42 : wfY 42 = true := by decide +kernel
theorem wz_2 : ∀ a, a < 2 → (∀ ip, ip < m_cnt a → wfE a ip = true) ∧ (a ≠ 0 → wfY a = true) := lt_s wz_1 ⟨w_1, fun _ => wy_1⟩
theorem wz_3 : ∀ a, a < 3 → (∀ ip, ip < m_cnt a → wfE a ip = true) ∧ (a ≠ 0 → wfY a = true) := lt_s wz_2 ⟨w_2, fun _ => wy_2⟩
theorem wz_4 : ∀ a, a < 4 → (∀ ip, ip < m_cnt a → wfE a ip = true) ∧ (a ≠ 0 → wfY a = true) := lt_s wz_3 ⟨w_3, fun _ => wy_3⟩
theorem wz_5 : ∀ a, a < 5 → (∀ ip, ip < m_cnt a → wfE a ip = true) ∧ (a ≠ 0 → wfY a = true) := lt_s wz_4 ⟨w_4, fun _ => wy_4⟩
theorem wz_6 : ∀ a, a < 6 → (∀ ip, ip < m_cnt a → wfE a ip = true) ∧ (a ≠ 0 → wfY a = true) := lt_s wz_5 ⟨w_5, fun _ => wy_5⟩
theorem wz_7 : ∀ a, a < 7 → (∀ ip, ip < m_cnt a → wfE a ip = true) ∧ (a ≠ 0 → wfY a = true) := lt_s wz_6 ⟨w_6, fun _ => wy_6⟩
theorem wz_8 : ∀ a, a < 8 → (∀ ip, ip < m_cnt a → wfE a ip = true) ∧ (a ≠ 0 → wfY a = true) := lt_s wz_7 ⟨w_7, fun _ => wy_7⟩
theorem wz_9 : ∀ a, a < 9 → (∀ ip, ip < m_cnt a → wfE a ip = true) ∧ (a ≠ 0 → wfY a = true) := lt_s wz_8 ⟨w_8, fun _ => wy_8⟩
theorem wz_10 : ∀ a, a < 10 → (∀ ip, ip < m_cnt a → wfE a ip = true) ∧ (a ≠ 0 → wfY a = true) := lt_s wz_9 ⟨w_9, fun _ => wy_9⟩
theorem wz_11 : ∀ a, a < 11 → (∀ ip, ip < m_cnt a → wfE a ip = true) ∧ (a ≠ 0 → wfY a = true) := lt_s wz_10 ⟨w_10, fun _ => wy_10⟩
theorem wz_12 : ∀ a, a < 12 → (∀ ip, ip < m_cnt a → wfE a ip = true) ∧ (a ≠ 0 → wfY a = true) := lt_s wz_11 ⟨w_11, fun _ => wy_11⟩
theorem wz_13 : ∀ a, a < 13 → (∀ ip, ip < m_cnt a → wfE a ip = true) ∧ (a ≠ 0 → wfY a = true) := lt_s wz_12 ⟨w_12, fun _ => wy_12⟩
theorem wz_14 : ∀ a, a < 14 → (∀ ip, ip < m_cnt a → wfE a ip = true) ∧ (a ≠ 0 → wfY a = true) := lt_s wz_13 ⟨w_13, fun _ => wy_13⟩
theorem wz_15 : ∀ a, a < 15 → (∀ ip, ip < m_cnt a → wfE a ip = true) ∧ (a ≠ 0 → wfY a = true) := lt_s wz_14 ⟨w_14, fun _ => wy_14⟩
theorem wz_16 : ∀ a, a < 16 → (∀ ip, ip < m_cnt a → wfE a ip = true) ∧ (a ≠ 0 → wfY a = true) := lt_s wz_15 ⟨w_15, fun _ => wy_15⟩
theorem wz_17 : ∀ a, a < 17 → (∀ ip, ip < m_cnt a → wfE a ip = true) ∧ (a ≠ 0 → wfY a = true) := lt_s wz_16 ⟨w_16, fun _ => wy_16⟩
theorem wz_18 : ∀ a, a < 18 → (∀ ip, ip < m_cnt a → wfE a ip = true) ∧ (a ≠ 0 → wfY a = true) := lt_s wz_17 ⟨w_17, fun _ => wy_17⟩
theorem wz_19 : ∀ a, a < 19 → (∀ ip, ip < m_cnt a → wfE a ip = true) ∧ (a ≠ 0 → wfY a = true) := lt_s wz_18 ⟨w_18, fun _ => wy_18⟩
theorem wz_20 : ∀ a, a < 20 → (∀ ip, ip < m_cnt a → wfE a ip = true) ∧ (a ≠ 0 → wfY a = true) := lt_s wz_19 ⟨w_19, fun _ => wy_19⟩
theorem wz_21 : ∀ a, a < 21 → (∀ ip, ip < m_cnt a → wfE a ip = true) ∧ (a ≠ 0 → wfY a = true) := lt_s wz_20 ⟨w_20, fun _ => wy_20⟩
theorem wz_22 : ∀ a, a < 22 → (∀ ip, ip < m_cnt a → wfE a ip = true) ∧ (a ≠ 0 → wfY a = true) := lt_s wz_21 ⟨w_21, fun _ => wy_21⟩
theorem wz_23 : ∀ a, a < 23 → (∀ ip, ip < m_cnt a → wfE a ip = true) ∧ (a ≠ 0 → wfY a = true) := lt_s wz_22 ⟨w_22, fun _ => wy_22⟩
theorem wz_24 : ∀ a, a < 24 → (∀ ip, ip < m_cnt a → wfE a ip = true) ∧ (a ≠ 0 → wfY a = true) := lt_s wz_23 ⟨w_23, fun _ => wy_23⟩
theorem wz_25 : ∀ a, a < 25 → (∀ ip, ip < m_cnt a → wfE a ip = true) ∧ (a ≠ 0 → wfY a = true) := lt_s wz_24 ⟨w_24, fun _ => wy_24⟩
theorem wz_26 : ∀ a, a < 26 → (∀ ip, ip < m_cnt a → wfE a ip = true) ∧ (a ≠ 0 → wfY a = true) := lt_s wz_25 ⟨w_25, fun _ => wy_25⟩
theorem wz_27 : ∀ a, a < 27 → (∀ ip, ip < m_cnt a → wfE a ip = true) ∧ (a ≠ 0 → wfY a = true) := lt_s wz_26 ⟨w_26, fun _ => wy_26⟩
theorem wz_28 : ∀ a, a < 28 → (∀ ip, ip < m_cnt a → wfE a ip = true) ∧ (a ≠ 0 → wfY a = true) := lt_s wz_27 ⟨w_27, fun _ => wy_27⟩
theorem wz_29 : ∀ a, a < 29 → (∀ ip, ip < m_cnt a → wfE a ip = true) ∧ (a ≠ 0 → wfY a = true) := lt_s wz_28 ⟨w_28, fun _ => wy_28⟩
theorem wz_30 : ∀ a, a < 30 → (∀ ip, ip < m_cnt a → wfE a ip = true) ∧ (a ≠ 0 → wfY a = true) := lt_s wz_29 ⟨w_29, fun _ => wy_29⟩
theorem wz_31 : ∀ a, a < 31 → (∀ ip, ip < m_cnt a → wfE a ip = true) ∧ (a ≠ 0 → wfY a = true) := lt_s wz_30 ⟨w_30, fun _ => wy_30⟩
theorem wz_32 : ∀ a, a < 32 → (∀ ip, ip < m_cnt a → wfE a ip = true) ∧ (a ≠ 0 → wfY a = true) := lt_s wz_31 ⟨w_31, fun _ => wy_31⟩
theorem wz_33 : ∀ a, a < 33 → (∀ ip, ip < m_cnt a → wfE a ip = true) ∧ (a ≠ 0 → wfY a = true) := lt_s wz_32 ⟨w_32, fun _ => wy_32⟩
theorem wz_34 : ∀ a, a < 34 → (∀ ip, ip < m_cnt a → wfE a ip = true) ∧ (a ≠ 0 → wfY a = true) := lt_s wz_33 ⟨w_33, fun _ => wy_33⟩
theorem wz_35 : ∀ a, a < 35 → (∀ ip, ip < m_cnt a → wfE a ip = true) ∧ (a ≠ 0 → wfY a = true) := lt_s wz_34 ⟨w_34, fun _ => wy_34⟩
theorem wz_36 : ∀ a, a < 36 → (∀ ip, ip < m_cnt a → wfE a ip = true) ∧ (a ≠ 0 → wfY a = true) := lt_s wz_35 ⟨w_35, fun _ => wy_35⟩
theorem wz_37 : ∀ a, a < 37 → (∀ ip, ip < m_cnt a → wfE a ip = true) ∧ (a ≠ 0 → wfY a = true) := lt_s wz_36 ⟨w_36, fun _ => wy_36⟩
theorem wz_38 : ∀ a, a < 38 → (∀ ip, ip < m_cnt a → wfE a ip = true) ∧ (a ≠ 0 → wfY a = true) := lt_s wz_37 ⟨w_37, fun _ => wy_37⟩
theorem wz_39 : ∀ a, a < 39 → (∀ ip, ip < m_cnt a → wfE a ip = true) ∧ (a ≠ 0 → wfY a = true) := lt_s wz_38 ⟨w_38, fun _ => wy_38⟩
theorem wz_40 : ∀ a, a < 40 → (∀ ip, ip < m_cnt a → wfE a ip = true) ∧ (a ≠ 0 → wfY a = true) := lt_s wz_39 ⟨w_39, fun _ => wy_39⟩
theorem wz_41 : ∀ a, a < 41 → (∀ ip, ip < m_cnt a → wfE a ip = true) ∧ (a ≠ 0 → wfY a = true) := lt_s wz_40 ⟨w_40, fun _ => wy_40⟩
theorem wz_42 : ∀ a, a < 42 → (∀ ip, ip < m_cnt a → wfE a ip = true) ∧ (a ≠ 0 → wfY a = true) := lt_s wz_41 ⟨w_41, fun _ => wy_41⟩
theorem wz_43 : ∀ a, a < 43 → (∀ ip, ip < m_cnt a → wfE a ip = true) ∧ (a ≠ 0 → wfY a = true) := lt_s wz_42 ⟨w_42, fun _ => wy_42⟩
