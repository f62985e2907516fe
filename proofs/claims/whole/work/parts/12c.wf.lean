theorem w_43 : ∀ ip, ip < m_cnt 43 → wfE 43 ip = true := fun ip h => List.all_eq_true.mp (show (List.range (m_cnt 43)).all (wfE 43) = true by decide +kernel) ip (List.mem_range.mpr h)
theorem wy_43 : wfY 43 = true := by decide +kernel
theorem w_44 : ∀ ip, ip < m_cnt 44 → wfE 44 ip = true := fun ip h => List.all_eq_true.mp (show (List.range (m_cnt 44)).all (wfE 44) = true by decide +kernel) ip (List.mem_range.mpr h)
theorem wy_44 : wfY 44 = true := by decide +kernel
theorem w_45 : ∀ ip, ip < m_cnt 45 → wfE 45 ip = true := fun ip h => List.all_eq_true.mp (show (List.range (m_cnt 45)).all (wfE 45) = true by decide +kernel) ip (List.mem_range.mpr h)
theorem wy_45 : wfY 45 = true := by decide +kernel
theorem w_46 : ∀ ip, ip < m_cnt 46 → wfE 46 ip = true := fun ip h => List.all_eq_true.mp (show (List.range (m_cnt 46)).all (wfE 46) = true by decide +kernel) ip (List.mem_range.mpr h)
theorem wy_46 : wfY 46 = true := by decide +kernel
theorem w_47 : ∀ ip, ip < m_cnt 47 → wfE 47 ip = true := fun ip h => List.all_eq_true.mp (show (List.range (m_cnt 47)).all (wfE 47) = true by decide +kernel) ip (List.mem_range.mpr h)
theorem wy_47 : wfY 47 = true := by decide +kernel
theorem w_48 : ∀ ip, ip < m_cnt 48 → wfE 48 ip = true := fun ip h => List.all_eq_true.mp (show (List.range (m_cnt 48)).all (wfE 48) = true by decide +kernel) ip (List.mem_range.mpr h)
theorem wy_48 : wfY 48 = true := by decide +kernel
theorem w_49 : ∀ ip, ip < m_cnt 49 → wfE 49 ip = true := fun ip h => List.all_eq_true.mp (show (List.range (m_cnt 49)).all (wfE 49) = true by decide +kernel) ip (List.mem_range.mpr h)
theorem wy_49 : wfY 49 = true := by decide +kernel
theorem w_50 : ∀ ip, ip < m_cnt 50 → wfE 50 ip = true := fun ip h => List.all_eq_true.mp (show (List.range (m_cnt 50)).all (wfE 50) = true by decide +kernel) ip (List.mem_range.mpr h)
theorem wy_50 : wfY 50 = true := by decide +kernel
theorem w_51 : ∀ ip, ip < m_cnt 51 → wfE 51 ip = true := fun ip h => List.all_eq_true.mp (show (List.range (m_cnt 51)).all (wfE 51) = true by decide +kernel) ip (List.mem_range.mpr h)
theorem wy_51 : wfY 51 = true := by decide +kernel
theorem w_52 : ∀ ip, ip < m_cnt 52 → wfE 52 ip = true := fun ip h => List.all_eq_true.mp (show (List.range (m_cnt 52)).all (wfE 52) = true by decide +kernel) ip (List.mem_range.mpr h)
theorem wy_52 : wfY 52 = true := by decide +kernel
theorem w_53 : ∀ ip, ip < m_cnt 53 → wfE 53 ip = true := fun ip h => List.all_eq_true.mp (show (List.range (m_cnt 53)).all (wfE 53) = true by decide +kernel) ip (List.mem_range.mpr h)
theorem wy_53 : wfY 53 = true := by decide +kernel
theorem w_54 : ∀ ip, ip < m_cnt 54 → wfE 54 ip = true := fun ip h => List.all_eq_true.mp (show (List.range (m_cnt 54)).all (wfE 54) = true by decide +kernel) ip (List.mem_range.mpr h)
theorem wy_54 : wfY 54 = true := by decide +kernel
theorem w_55 : ∀ ip, ip < m_cnt 55 → wfE 55 ip = true := fun ip h => List.all_eq_true.mp (show (List.range (m_cnt 55)).all (wfE 55) = true by decide +kernel) ip (List.mem_range.mpr h)
theorem wy_55 : wfY 55 = true := by decide +kernel
theorem w_56 : ∀ ip, ip < m_cnt 56 → wfE 56 ip = true := fun ip h => List.all_eq_true.mp (show (List.range (m_cnt 56)).all (wfE 56) = true by decide +kernel) ip (List.mem_range.mpr h)
theorem wy_56 : wfY 56 = true := by decide +kernel
theorem w_57 : ∀ ip, ip < m_cnt 57 → wfE 57 ip = true := fun ip h => List.all_eq_true.mp (show (List.range (m_cnt 57)).all (wfE 57) = true by decide +kernel) ip (List.mem_range.mpr h)
theorem wy_57 : wfY 57 = true := by decide +kernel
theorem w_58 : ∀ ip, ip < m_cnt 58 → wfE 58 ip = true := fun ip h => List.all_eq_true.mp (show (List.range (m_cnt 58)).all (wfE 58) = true by decide +kernel) ip (List.mem_range.mpr h)
theorem wy_58 : wfY 58 = true := by decide +kernel
theorem w_59 : ∀ ip, ip < m_cnt 59 → wfE 59 ip = true := fun ip h => List.all_eq_true.mp (show (List.range (m_cnt 59)).all (wfE 59) = true by decide +kernel) ip (List.mem_range.mpr h)
theorem wy_59 : wfY 59 = true := by decide +kernel
theorem w_60 : ∀ ip, ip < m_cnt 60 → wfE 60 ip = true := fun ip h => List.all_eq_true.mp (show (List.range (m_cnt 60)).all (wfE 60) = true by decide +kernel) ip (List.mem_range.mpr h)
theorem wy_60 : wfY 60 = true := by decide +kernel
theorem w_61 : ∀ ip, ip < m_cnt 61 → wfE 61 ip = true := fun ip h => List.all_eq_true.mp (show (List.range (m_cnt 61)).all (wfE 61) = true by decide +kernel) ip (List.mem_range.mpr h)
theorem wy_61 : wfY 61 = true := by decide +kernel
theorem w_62 : ∀ ip, ip < m_cnt 62 → wfE 62 ip = true := fun ip h => List.all_eq_true.mp (show (List.range (m_cnt 62)).all (wfE 62) = true by decide +kernel) ip (List.mem_range.mpr h)
theorem wy_62 : wfY 62 = true := by decide +kernel
theorem w_63 : ∀ ip, ip < m_cnt 63 → wfE 63 ip = true := fun ip h => List.all_eq_true.mp (show (List.range (m_cnt 63)).all (wfE 63) = true by decide +kernel) ip (List.mem_range.mpr h)
theorem wy_63 : wfY 63 = true := by decide +kernel
theorem w_64 : ∀ ip, ip < m_cnt 64 → wfE 64 ip = true := fun ip h => List.all_eq_true.mp (show (List.range (m_cnt 64)).all (wfE 64) = true by decide +kernel) ip (List.mem_range.mpr h)
theorem wy_64 : wfY 64 = true := by decide +kernel
theorem w_65 : ∀ ip, ip < m_cnt 65 → wfE 65 ip = true := fun ip h => List.all_eq_true.mp (show (List.range (m_cnt 65)).all (wfE 65) = true by decide +kernel) ip (List.mem_range.mpr h)
theorem wy_65 : wfY 65 = true := by decide +kernel
theorem w_66 : ∀ ip, ip < m_cnt 66 → wfE 66 ip = true := fun ip h => List.all_eq_true.mp (show (List.range (m_cnt 66)).all (wfE 66) = true by decide +kernel) ip (List.mem_range.mpr h)
theorem wy_66 : wfY 66 = true := by decide +kernel
theorem w_67 : ∀ ip, ip < m_cnt 67 → wfE 67 ip = true := fun ip h => List.all_eq_true.mp (show (List.range (m_cnt 67)).all (wfE 67) = true by decide +kernel) ip (List.mem_range.mpr h)
theorem wy_67 : wfY 67 = true := by decide +kernel
theorem w_68 : ∀ ip, ip < m_cnt 68 → wfE 68 ip = true := fun ip h => List.all_eq_true.mp (show (List.range (m_cnt 68)).all (wfE 68) = true by decide +kernel) ip (List.mem_range.mpr h)
theorem wy_68 : wfY 68 = true := by decide +kernel
theorem w_69 : ∀ ip, ip < m_cnt 69 → wfE 69 ip = true := fun ip h => List.all_eq_true.mp (show (List.range (m_cnt 69)).all (wfE 69) = true by decide +kernel) ip (List.mem_range.mpr h)
theorem wy_69 : wfY 69 = true := by decide +kernel
theorem w_70 : ∀ ip, ip < m_cnt 70 → wfE 70 ip = true := fun ip h => List.all_eq_true.mp (show (List.range (m_cnt 70)).all (wfE 70) = true by decide +kernel) ip (List.mem_range.mpr h)
theorem wy_70 : wfY 70 = true := by decide +kernel
theorem w_71 : ∀ ip, ip < m_cnt 71 → wfE 71 ip = true := fun ip h => List.all_eq_true.mp (show (List.range (m_cnt 71)).all (wfE 71) = true by decide +kernel) ip (List.mem_range.mpr h)
theorem wy_71 : wfY 71 = true := by decide +kernel
theorem w_72 : ∀ ip, ip < m_cnt 72 → wfE 72 ip = true := fun ip h => List.all_eq_true.mp (show (List.range (m_cnt 72)).all (wfE 72) = true by decide +kernel) ip (List.mem_range.mpr h)
theorem wy_72 : wfY 72 = true := by decide +kernel
theorem w_73 : ∀ ip, ip < m_cnt 73 → wfE 73 ip = true := fun ip h => List.all_eq_true.mp (show (List.range (m_cnt 73)).all (wfE 73) = true by decide +kernel) ip (List.mem_range.mpr h)
theorem wy_73 : wfY 73 = true := by decide +kernel
theorem w_74 : ∀ ip, ip < m_cnt 74 → wfE 74 ip = true := fun ip h => List.all_eq_true.mp (show (List.range (m_cnt 74)).all (wfE 74) = true by decide +kernel) ip (List.mem_range.mpr h)
theorem wy_74 : wfY 74 = true := by decide +kernel
theorem w_75 : ∀ ip, ip < m_cnt 75 → wfE 75 ip = true := fun ip h => List.all_eq_true.mp (show (List.range (m_cnt 75)).all (wfE 75) = true by decide +kernel) ip (List.mem_range.mpr h)
theorem wy_75 : wfY 75 = true := by decide +kernel
theorem w_76 : ∀ ip, ip < m_cnt 76 → wfE 76 ip = true := fun ip h => List.all_eq_true.mp (show (List.range (m_cnt 76)).all (wfE 76) = true by decide +kernel) ip (List.mem_range.mpr h)
theorem wy_76 : wfY 76 = true := by decide +kernel
theorem w_77 : ∀ ip, ip < m_cnt 77 → wfE 77 ip = true := fun ip h => List.all_eq_true.mp (show (List.range (m_cnt 77)).all (wfE 77) = true by decide +kernel) ip (List.mem_range.mpr h)
theorem wy_77 : wfY 77 = true := by decide +kernel
theorem w_78 : ∀ ip, ip < m_cnt 78 → wfE 78 ip = true := fun ip h => List.all_eq_true.mp (show (List.range (m_cnt 78)).all (wfE 78) = true by decide +kernel) ip (List.mem_range.mpr h)
theorem wy_78 : wfY 78 = true := by decide +kernel
theorem w_79 : ∀ ip, ip < m_cnt 79 → wfE 79 ip = true := fun ip h => List.all_eq_true.mp (show (List.range (m_cnt 79)).all (wfE 79) = true by decide +kernel) ip (List.mem_range.mpr h)
theorem wy_79 : wfY 79 = true := by decide +kernel
theorem w_80 : ∀ ip, ip < m_cnt 80 → wfE 80 ip = true := fun ip h => List.all_eq_true.mp (show (List.range (m_cnt 80)).all (wfE 80) = true by decide +kernel) ip (List.mem_range.mpr h)
theorem wy_80 : wfY 80 = true := by decide +kernel
theorem w_81 : ∀ ip, ip < m_cnt 81 → wfE 81 ip = true := fun ip h => List.all_eq_true.mp (show (List.range (m_cnt 81)).all (wfE 81) = true by decide +kernel) ip (List.mem_range.mpr h)
theorem wy_81 : wfY 81 = true := by decide +kernel
theorem w_82 : ∀ ip, ip < m_cnt 82 → wfE 82 ip = true := fun ip h => List.all_eq_true.mp (show (List.range (m_cnt 82)).all (wfE 82) = true by decide +kernel) ip (List.mem_range.mpr h)
theorem wy_82 : wfY 82 = true := by decide +kernel
theorem w_83 : ∀ ip, ip < m_cnt 83 → wfE 83 ip = true := fun ip h => List.all_eq_true.mp (show (List.range (m_cnt 83)).all (wfE 83) = true by decide +kernel) ip (List.mem_range.mpr h)
theorem wy_83 : wfY 83 = true := by decide +kernel
theorem w_84 : ∀ ip, ip < m_cnt 84 → wfE 84 ip = true := fun ip h => List.all_eq_true.mp (show (List.range (m_cnt 84)).all (wfE 84) = true by decide +kernel) ip (List.mem_range.mpr h)
theorem wy_84 : wfY 84 = true := by decide +kernel
theorem wz_44 : ∀ a, a < 44 → (∀ ip, ip < m_cnt a → wfE a ip = true) ∧ (a ≠ 0 → wfY a = true) := lt_s wz_43 ⟨w_43, fun _ => wy_43⟩
theorem wz_45 : ∀ a, a < 45 → (∀ ip, ip < m_cnt a → wfE a ip = true) ∧ (a ≠ 0 → wfY a = true) := lt_s wz_44 ⟨w_44, fun _ => wy_44⟩
theorem wz_46 : ∀ a, a < 46 → (∀ ip, ip < m_cnt a → wfE a ip = true) ∧ (a ≠ 0 → wfY a = true) := lt_s wz_45 ⟨w_45, fun _ => wy_45⟩
theorem wz_47 : ∀ a, a < 47 → (∀ ip, ip < m_cnt a → wfE a ip = true) ∧ (a ≠ 0 → wfY a = true) := lt_s wz_46 ⟨w_46, fun _ => wy_46⟩
theorem wz_48 : ∀ a, a < 48 → (∀ ip, ip < m_cnt a → wfE a ip = true) ∧ (a ≠ 0 → wfY a = true) := lt_s wz_47 ⟨w_47, fun _ => wy_47⟩
theorem wz_49 : ∀ a, a < 49 → (∀ ip, ip < m_cnt a → wfE a ip = true) ∧ (a ≠ 0 → wfY a = true) := lt_s wz_48 ⟨w_48, fun _ => wy_48⟩
theorem wz_50 : ∀ a, a < 50 → (∀ ip, ip < m_cnt a → wfE a ip = true) ∧ (a ≠ 0 → wfY a = true) := lt_s wz_49 ⟨w_49, fun _ => wy_49⟩
theorem wz_51 : ∀ a, a < 51 → (∀ ip, ip < m_cnt a → wfE a ip = true) ∧ (a ≠ 0 → wfY a = true) := lt_s wz_50 ⟨w_50, fun _ => wy_50⟩
theorem wz_52 : ∀ a, a < 52 → (∀ ip, ip < m_cnt a → wfE a ip = true) ∧ (a ≠ 0 → wfY a = true) := lt_s wz_51 ⟨w_51, fun _ => wy_51⟩
theorem wz_53 : ∀ a, a < 53 → (∀ ip, ip < m_cnt a → wfE a ip = true) ∧ (a ≠ 0 → wfY a = true) := lt_s wz_52 ⟨w_52, fun _ => wy_52⟩
theorem wz_54 : ∀ a, a < 54 → (∀ ip, ip < m_cnt a → wfE a ip = true) ∧ (a ≠ 0 → wfY a = true) := lt_s wz_53 ⟨w_53, fun _ => wy_53⟩
theorem wz_55 : ∀ a, a < 55 → (∀ ip, ip < m_cnt a → wfE a ip = true) ∧ (a ≠ 0 → wfY a = true) := lt_s wz_54 ⟨w_54, fun _ => wy_54⟩
theorem wz_56 : ∀ a, a < 56 → (∀ ip, ip < m_cnt a → wfE a ip = true) ∧ (a ≠ 0 → wfY a = true) := lt_s wz_55 ⟨w_55, fun _ => wy_55⟩
theorem wz_57 : ∀ a, a < 57 → (∀ ip, ip < m_cnt a → wfE a ip = true) ∧ (a ≠ 0 → wfY a = true) := lt_s wz_56 ⟨w_56, fun _ => wy_56⟩
theorem wz_58 : ∀ a, a < 58 → (∀ ip, ip < m_cnt a → wfE a ip = true) ∧ (a ≠ 0 → wfY a = true) := lt_s wz_57 ⟨w_57, fun _ => wy_57⟩
theorem wz_59 : ∀ a, a < 59 → (∀ ip, ip < m_cnt a → wfE a ip = true) ∧ (a ≠ 0 → wfY a = true) := lt_s wz_58 ⟨w_58, fun _ => wy_58⟩
theorem wz_60 : ∀ a, a < 60 → (∀ ip, ip < m_cnt a → wfE a ip = true) ∧ (a ≠ 0 → wfY a = true) := lt_s wz_59 ⟨w_59, fun _ => wy_59⟩
theorem wz_61 : ∀ a, a < 61 → (∀ ip, ip < m_cnt a → wfE a ip = true) ∧ (a ≠ 0 → wfY a = true) := lt_s wz_60 ⟨w_60, fun _ => wy_60⟩
theorem wz_62 : ∀ a, a < 62 → (∀ ip, ip < m_cnt a → wfE a ip = true) ∧ (a ≠ 0 → wfY a = true) := lt_s wz_61 ⟨w_61, fun _ => wy_61⟩
theorem wz_63 : ∀ a, a < 63 → (∀ ip, ip < m_cnt a → wfE a ip = true) ∧ (a ≠ 0 → wfY a = true) := lt_s wz_62 ⟨w_62, fun _ => wy_62⟩
theorem wz_64 : ∀ a, a < 64 → (∀ ip, ip < m_cnt a → wfE a ip = true) ∧ (a ≠ 0 → wfY a = true) := lt_s wz_63 ⟨w_63, fun _ => wy_63⟩
theorem wz_65 : ∀ a, a < 65 → (∀ ip, ip < m_cnt a → wfE a ip = true) ∧ (a ≠ 0 → wfY a = true) := lt_s wz_64 ⟨w_64, fun _ => wy_64⟩
theorem wz_66 : ∀ a, a < 66 → (∀ ip, ip < m_cnt a → wfE a ip = true) ∧ (a ≠ 0 → wfY a = true) := lt_s wz_65 ⟨w_65, fun _ => wy_65⟩
theorem wz_67 : ∀ a, a < 67 → (∀ ip, ip < m_cnt a → wfE a ip = true) ∧ (a ≠ 0 → wfY a = true) := lt_s wz_66 ⟨w_66, fun _ => wy_66⟩
theorem wz_68 : ∀ a, a < 68 → (∀ ip, ip < m_cnt a → wfE a ip = true) ∧ (a ≠ 0 → wfY a = true) := lt_s wz_67 ⟨w_67, fun _ => wy_67⟩
theorem wz_69 : ∀ a, a < 69 → (∀ ip, ip < m_cnt a → wfE a ip = true) ∧ (a ≠ 0 → wfY a = true) := lt_s wz_68 ⟨w_68, fun _ => wy_68⟩
theorem wz_70 : ∀ a, a < 70 → (∀ ip, ip < m_cnt a → wfE a ip = true) ∧ (a ≠ 0 → wfY a = true) := lt_s wz_69 ⟨w_69, fun _ => wy_69⟩
theorem wz_71 : ∀ a, a < 71 → (∀ ip, ip < m_cnt a → wfE a ip = true) ∧ (a ≠ 0 → wfY a = true) := lt_s wz_70 ⟨w_70, fun _ => wy_70⟩
theorem wz_72 : ∀ a, a < 72 → (∀ ip, ip < m_cnt a → wfE a ip = true) ∧ (a ≠ 0 → wfY a = true) := lt_s wz_71 ⟨w_71, fun _ => wy_71⟩
theorem wz_73 : ∀ a, a < 73 → (∀ ip, ip < m_cnt a → wfE a ip = true) ∧ (a ≠ 0 → wfY a = true) := lt_s wz_72 ⟨w_72, fun _ => wy_72⟩
theorem wz_74 : ∀ a, a < 74 → (∀ ip, ip < m_cnt a → wfE a ip = true) ∧ (a ≠ 0 → wfY a = true) := lt_s wz_73 ⟨w_73, fun _ => wy_73⟩
theorem wz_75 : ∀ a, a < 75 → (∀ ip, ip < m_cnt a → wfE a ip = true) ∧ (a ≠ 0 → wfY a = true) := lt_s wz_74 ⟨w_74, fun _ => wy_74⟩
theorem wz_76 : ∀ a, a < 76 → (∀ ip, ip < m_cnt a → wfE a ip = true) ∧ (a ≠ 0 → wfY a = true) := lt_s wz_75 ⟨w_75, fun _ => wy_75⟩
theorem wz_77 : ∀ a, a < 77 → (∀ ip, ip < m_cnt a → wfE a ip = true) ∧ (a ≠ 0 → wfY a = true) := lt_s wz_76 ⟨w_76, fun _ => wy_76⟩
theorem wz_78 : ∀ a, a < 78 → (∀ ip, ip < m_cnt a → wfE a ip = true) ∧ (a ≠ 0 → wfY a = true) := lt_s wz_77 ⟨w_77, fun _ => wy_77⟩
theorem wz_79 : ∀ a, a < 79 → (∀ ip, ip < m_cnt a → wfE a ip = true) ∧ (a ≠ 0 → wfY a = true) := lt_s wz_78 ⟨w_78, fun _ => wy_78⟩
theorem wz_80 : ∀ a, a < 80 → (∀ ip, ip < m_cnt a → wfE a ip = true) ∧ (a ≠ 0 → wfY a = true) := lt_s wz_79 ⟨w_79, fun _ => wy_79⟩
theorem wz_81 : ∀ a, a < 81 → (∀ ip, ip < m_cnt a → wfE a ip = true) ∧ (a ≠ 0 → wfY a = true) := lt_s wz_80 ⟨w_80, fun _ => wy_80⟩
theorem wz_82 : ∀ a, a < 82 → (∀ ip, ip < m_cnt a → wfE a ip = true) ∧ (a ≠ 0 → wfY a = true) := lt_s wz_81 ⟨w_81, fun _ => wy_81⟩
theorem wz_83 : ∀ a, a < 83 → (∀ ip, ip < m_cnt a → wfE a ip = true) ∧ (a ≠ 0 → wfY a = true) := lt_s wz_82 ⟨w_82, fun _ => wy_82⟩
theorem wz_84 : ∀ a, a < 84 → (∀ ip, ip < m_cnt a → wfE a ip = true) ∧ (a ≠ 0 → wfY a = true) := lt_s wz_83 ⟨w_83, fun _ => wy_83⟩
theorem wz_85 : ∀ a, a < 85 → (∀ ip, ip < m_cnt a → wfE a ip = true) ∧ (a ≠ 0 → wfY a = true) := lt_s wz_84 ⟨w_84, fun _ => wy_84⟩
