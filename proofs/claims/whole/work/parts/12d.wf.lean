theorem w_85 : ∀ ip, ip < m_cnt 85 → wfE 85 ip = true := fun ip h => List.all_eq_true.mp (show (List.range (m_cnt 85)).all (wfE 85) = true by decide +kernel) ip (List.mem_range.mpr h)
theorem wy_85 : wfY 85 = true := by decide +kernel
theorem w_86 : ∀ ip, ip < m_cnt 86 → wfE 86 ip = true := fun ip h => List.all_eq_true.mp (show (List.range (m_cnt 86)).all (wfE 86) = true by decide +kernel) ip (List.mem_range.mpr h)
theorem wy_86 : wfY 86 = true := by decide +kernel
theorem w_87 : ∀ ip, ip < m_cnt 87 → wfE 87 ip = true := fun ip h => List.all_eq_true.mp (show (List.range (m_cnt 87)).all (wfE 87) = true by decide +kernel) ip (List.mem_range.mpr h)
theorem wy_87 : wfY 87 = true := by decide +kernel
theorem w_88 : ∀ ip, ip < m_cnt 88 → wfE 88 ip = true := fun ip h => List.all_eq_true.mp (show (List.range (m_cnt 88)).all (wfE 88) = true by decide +kernel) ip (List.mem_range.mpr h)
theorem wy_88 : wfY 88 = true := by decide +kernel
theorem w_89 : ∀ ip, ip < m_cnt 89 → wfE 89 ip = true := fun ip h => List.all_eq_true.mp (show (List.range (m_cnt 89)).all (wfE 89) = true by decide +kernel) ip (List.mem_range.mpr h)
theorem wy_89 : wfY 89 = true := by decide +kernel
theorem w_90 : ∀ ip, ip < m_cnt 90 → wfE 90 ip = true := fun ip h => List.all_eq_true.mp (show (List.range (m_cnt 90)).all (wfE 90) = true by decide +kernel) ip (List.mem_range.mpr h)
theorem wy_90 : wfY 90 = true := by decide +kernel
theorem w_91 : ∀ ip, ip < m_cnt 91 → wfE 91 ip = true := fun ip h => List.all_eq_true.mp (show (List.range (m_cnt 91)).all (wfE 91) = true by decide +kernel) ip (List.mem_range.mpr h)
theorem wy_91 : wfY 91 = true := by decide +kernel
theorem w_92 : ∀ ip, ip < m_cnt 92 → wfE 92 ip = true := fun ip h => List.all_eq_true.mp (show (List.range (m_cnt 92)).all (wfE 92) = true by decide +kernel) ip (List.mem_range.mpr h)
theorem wy_92 : wfY 92 = true := by decide +kernel
theorem w_93 : ∀ ip, ip < m_cnt 93 → wfE 93 ip = true := fun ip h => List.all_eq_true.mp (show (List.range (m_cnt 93)).all (wfE 93) = true by decide +kernel) ip (List.mem_range.mpr h)
theorem wy_93 : wfY 93 = true := by decide +kernel
theorem w_94 : ∀ ip, ip < m_cnt 94 → wfE 94 ip = true := fun ip h => List.all_eq_true.mp (show (List.range (m_cnt 94)).all (wfE 94) = true by decide +kernel) ip (List.mem_range.mpr h)
theorem wy_94 : wfY 94 = true := by decide +kernel
theorem w_95 : ∀ ip, ip < m_cnt 95 → wfE 95 ip = true := fun ip h => List.all_eq_true.mp (show (List.range (m_cnt 95)).all (wfE 95) = true by decide +kernel) ip (List.mem_range.mpr h)
theorem wy_95 : wfY 95 = true := by decide +kernel
theorem w_96 : ∀ ip, ip < m_cnt 96 → wfE 96 ip = true := fun ip h => List.all_eq_true.mp (show (List.range (m_cnt 96)).all (wfE 96) = true by decide +kernel) ip (List.mem_range.mpr h)
theorem wy_96 : wfY 96 = true := by decide +kernel
theorem w_97 : ∀ ip, ip < m_cnt 97 → wfE 97 ip = true := fun ip h => List.all_eq_true.mp (show (List.range (m_cnt 97)).all (wfE 97) = true by decide +kernel) ip (List.mem_range.mpr h)
theorem wy_97 : wfY 97 = true := by decide +kernel
theorem w_98 : ∀ ip, ip < m_cnt 98 → wfE 98 ip = true := fun ip h => List.all_eq_true.mp (show (List.range (m_cnt 98)).all (wfE 98) = true by decide +kernel) ip (List.mem_range.mpr h)
theorem wy_98 : wfY 98 = true := by decide +kernel
theorem w_99 : ∀ ip, ip < m_cnt 99 → wfE 99 ip = true := fun ip h => List.all_eq_true.mp (show (List.range (m_cnt 99)).all (wfE 99) = true by decide +kernel) ip (List.mem_range.mpr h)
theorem wy_99 : wfY 99 = true := by decide +kernel
theorem w_100 : ∀ ip, ip < m_cnt 100 → wfE 100 ip = true := fun ip h => List.all_eq_true.mp (show (List.range (m_cnt 100)).all (wfE 100) = true by decide +kernel) ip (List.mem_range.mpr h)
theorem wy_100 : wfY 100 = true := by decide +kernel
theorem w_101 : ∀ ip, ip < m_cnt 101 → wfE 101 ip = true := fun ip h => List.all_eq_true.mp (show (List.range (m_cnt 101)).all (wfE 101) = true by decide +kernel) ip (List.mem_range.mpr h)
theorem wy_101 : wfY 101 = true := by decide +kernel
theorem w_102 : ∀ ip, ip < m_cnt 102 → wfE 102 ip = true := fun ip h => List.all_eq_true.mp (show (List.range (m_cnt 102)).all (wfE 102) = true by decide +kernel) ip (List.mem_range.mpr h)
theorem wy_102 : wfY 102 = true := by decide +kernel
theorem w_103 : ∀ ip, ip < m_cnt 103 → wfE 103 ip = true := fun ip h => List.all_eq_true.mp (show (List.range (m_cnt 103)).all (wfE 103) = true by decide +kernel) ip (List.mem_range.mpr h)
theorem wy_103 : wfY 103 = true := by decide +kernel
theorem w_104 : ∀ ip, ip < m_cnt 104 → wfE 104 ip = true := fun ip h => List.all_eq_true.mp (show (List.range (m_cnt 104)).all (wfE 104) = true by decide +kernel) ip (List.mem_range.mpr h)
theorem wy_104 : wfY 104 = true := by decide +kernel
theorem w_105 : ∀ ip, ip < m_cnt 105 → wfE 105 ip = true := fun ip h => List.all_eq_true.mp (show (List.range (m_cnt 105)).all (wfE 105) = true by decide +kernel) ip (List.mem_range.mpr h)
theorem wy_105 : wfY 105 = true := by decide +kernel
theorem w_106 : ∀ ip, ip < m_cnt 106 → wfE 106 ip = true := fun ip h => List.all_eq_true.mp (show (List.range (m_cnt 106)).all (wfE 106) = true by decide +kernel) ip (List.mem_range.mpr h)
theorem wy_106 : wfY 106 = true := by decide +kernel
theorem w_107 : ∀ ip, ip < m_cnt 107 → wfE 107 ip = true := fun ip h => List.all_eq_true.mp (show (List.range (m_cnt 107)).all (wfE 107) = true by decide +kernel) ip (List.mem_range.mpr h)
theorem wy_107 : wfY 107 = true := by decide +kernel
theorem w_108 : ∀ ip, ip < m_cnt 108 → wfE 108 ip = true := fun ip h => List.all_eq_true.mp (show (List.range (m_cnt 108)).all (wfE 108) = true by decide +kernel) ip (List.mem_range.mpr h)
theorem wy_108 : wfY 108 = true := by decide +kernel
theorem w_109 : ∀ ip, ip < m_cnt 109 → wfE 109 ip = true := fun ip h => List.all_eq_true.mp (show (List.range (m_cnt 109)).all (wfE 109) = true by decide +kernel) ip (List.mem_range.mpr h)
theorem wy_109 : wfY 109 = true := by decide +kernel
theorem w_110 : ∀ ip, ip < m_cnt 110 → wfE 110 ip = true := fun ip h => List.all_eq_true.mp (show (List.range (m_cnt 110)).all (wfE 110) = true by decide +kernel) ip (List.mem_range.mpr h)
theorem wy_110 : wfY 110 = true := by decide +kernel
theorem w_111 : ∀ ip, ip < m_cnt 111 → wfE 111 ip = true := fun ip h => List.all_eq_true.mp (show (List.range (m_cnt 111)).all (wfE 111) = true by decide +kernel) ip (List.mem_range.mpr h)
theorem wy_111 : wfY 111 = true := by decide +kernel
theorem w_112 : ∀ ip, ip < m_cnt 112 → wfE 112 ip = true := fun ip h => List.all_eq_true.mp (show (List.range (m_cnt 112)).all (wfE 112) = true by decide +kernel) ip (List.mem_range.mpr h)
theorem wy_112 : wfY 112 = true := by decide +kernel
theorem w_113 : ∀ ip, ip < m_cnt 113 → wfE 113 ip = true := fun ip h => List.all_eq_true.mp (show (List.range (m_cnt 113)).all (wfE 113) = true by decide +kernel) ip (List.mem_range.mpr h)
theorem wy_113 : wfY 113 = true := by decide +kernel
theorem w_114 : ∀ ip, ip < m_cnt 114 → wfE 114 ip = true := fun ip h => List.all_eq_true.mp (show (List.range (m_cnt 114)).all (wfE 114) = true by decide +kernel) ip (List.mem_range.mpr h)
theorem wy_114 : wfY 114 = true := by decide +kernel
theorem w_115 : ∀ ip, ip < m_cnt 115 → wfE 115 ip = true := fun ip h => List.all_eq_true.mp (show (List.range (m_cnt 115)).all (wfE 115) = true by decide +kernel) ip (List.mem_range.mpr h)
theorem wy_115 : wfY 115 = true := by decide +kernel
theorem w_116 : ∀ ip, ip < m_cnt 116 → wfE 116 ip = true := fun ip h => List.all_eq_true.mp (show (List.range (m_cnt 116)).all (wfE 116) = true by decide +kernel) ip (List.mem_range.mpr h)
theorem wy_116 : wfY 116 = true := by decide +kernel
theorem w_117 : ∀ ip, ip < m_cnt 117 → wfE 117 ip = true := fun ip h => List.all_eq_true.mp (show (List.range (m_cnt 117)).all (wfE 117) = true by decide +kernel) ip (List.mem_range.mpr h)
theorem wy_117 : wfY 117 = true := by decide +kernel
theorem w_118 : ∀ ip, ip < m_cnt 118 → wfE 118 ip = true := fun ip h => List.all_eq_true.mp (show (List.range (m_cnt 118)).all (wfE 118) = true by decide +kernel) ip (List.mem_range.mpr h)
theorem wy_118 : wfY 118 = true := by decide +kernel
theorem w_119 : ∀ ip, ip < m_cnt 119 → wfE 119 ip = true := fun ip h => List.all_eq_true.mp (show (List.range (m_cnt 119)).all (wfE 119) = true by decide +kernel) ip (List.mem_range.mpr h)
theorem wy_119 : wfY 119 = true := by decide +kernel
theorem w_120 : ∀ ip, ip < m_cnt 120 → wfE 120 ip = true := fun ip h => List.all_eq_true.mp (show (List.range (m_cnt 120)).all (wfE 120) = true by decide +kernel) ip (List.mem_range.mpr h)
theorem wy_120 : wfY 120 = true := by decide +kernel
theorem w_121 : ∀ ip, ip < m_cnt 121 → wfE 121 ip = true := fun ip h => List.all_eq_true.mp (show (List.range (m_cnt 121)).all (wfE 121) = true by decide +kernel) ip (List.mem_range.mpr h)
theorem wy_121 : wfY 121 = true := by decide +kernel
theorem w_122 : ∀ ip, ip < m_cnt 122 → wfE 122 ip = true := fun ip h => List.all_eq_true.mp (show (List.range (m_cnt 122)).all (wfE 122) = true by decide +kernel) ip (List.mem_range.mpr h)
theorem wy_122 : wfY 122 = true := by decide +kernel
theorem w_123 : ∀ ip, ip < m_cnt 123 → wfE 123 ip = true := fun ip h => List.all_eq_true.mp (show (List.range (m_cnt 123)).all (wfE 123) = true by decide +kernel) ip (List.mem_range.mpr h)
theorem wy_123 : wfY 123 = true := by decide +kernel
theorem w_124 : ∀ ip, ip < m_cnt 124 → wfE 124 ip = true := fun ip h => List.all_eq_true.mp (show (List.range (m_cnt 124)).all (wfE 124) = true by decide +kernel) ip (List.mem_range.mpr h)
theorem wy_124 : wfY 124 = true := by decide +kernel
theorem w_125 : ∀ ip, ip < m_cnt 125 → wfE 125 ip = true := fun ip h => List.all_eq_true.mp (show (List.range (m_cnt 125)).all (wfE 125) = true by decide +kernel) ip (List.mem_range.mpr h)
theorem wy_125 : wfY 125 = true := by decide +kernel
theorem w_126 : ∀ ip, ip < m_cnt 126 → wfE 126 ip = true := fun ip h => List.all_eq_true.mp (show (List.range (m_cnt 126)).all (wfE 126) = true by decide +kernel) ip (List.mem_range.mpr h)
theorem wy_126 : wfY 126 = true := by decide +kernel
theorem wz_86 : ∀ a, a < 86 → (∀ ip, ip < m_cnt a → wfE a ip = true) ∧ (a ≠ 0 → wfY a = true) := lt_s wz_85 ⟨w_85, fun _ => wy_85⟩
theorem wz_87 : ∀ a, a < 87 → (∀ ip, ip < m_cnt a → wfE a ip = true) ∧ (a ≠ 0 → wfY a = true) := lt_s wz_86 ⟨w_86, fun _ => wy_86⟩
theorem wz_88 : ∀ a, a < 88 → (∀ ip, ip < m_cnt a → wfE a ip = true) ∧ (a ≠ 0 → wfY a = true) := lt_s wz_87 ⟨w_87, fun _ => wy_87⟩
theorem wz_89 : ∀ a, a < 89 → (∀ ip, ip < m_cnt a → wfE a ip = true) ∧ (a ≠ 0 → wfY a = true) := lt_s wz_88 ⟨w_88, fun _ => wy_88⟩
theorem wz_90 : ∀ a, a < 90 → (∀ ip, ip < m_cnt a → wfE a ip = true) ∧ (a ≠ 0 → wfY a = true) := lt_s wz_89 ⟨w_89, fun _ => wy_89⟩
theorem wz_91 : ∀ a, a < 91 → (∀ ip, ip < m_cnt a → wfE a ip = true) ∧ (a ≠ 0 → wfY a = true) := lt_s wz_90 ⟨w_90, fun _ => wy_90⟩
theorem wz_92 : ∀ a, a < 92 → (∀ ip, ip < m_cnt a → wfE a ip = true) ∧ (a ≠ 0 → wfY a = true) := lt_s wz_91 ⟨w_91, fun _ => wy_91⟩
theorem wz_93 : ∀ a, a < 93 → (∀ ip, ip < m_cnt a → wfE a ip = true) ∧ (a ≠ 0 → wfY a = true) := lt_s wz_92 ⟨w_92, fun _ => wy_92⟩
theorem wz_94 : ∀ a, a < 94 → (∀ ip, ip < m_cnt a → wfE a ip = true) ∧ (a ≠ 0 → wfY a = true) := lt_s wz_93 ⟨w_93, fun _ => wy_93⟩
theorem wz_95 : ∀ a, a < 95 → (∀ ip, ip < m_cnt a → wfE a ip = true) ∧ (a ≠ 0 → wfY a = true) := lt_s wz_94 ⟨w_94, fun _ => wy_94⟩
theorem wz_96 : ∀ a, a < 96 → (∀ ip, ip < m_cnt a → wfE a ip = true) ∧ (a ≠ 0 → wfY a = true) := lt_s wz_95 ⟨w_95, fun _ => wy_95⟩
theorem wz_97 : ∀ a, a < 97 → (∀ ip, ip < m_cnt a → wfE a ip = true) ∧ (a ≠ 0 → wfY a = true) := lt_s wz_96 ⟨w_96, fun _ => wy_96⟩
theorem wz_98 : ∀ a, a < 98 → (∀ ip, ip < m_cnt a → wfE a ip = true) ∧ (a ≠ 0 → wfY a = true) := lt_s wz_97 ⟨w_97, fun _ => wy_97⟩
theorem wz_99 : ∀ a, a < 99 → (∀ ip, ip < m_cnt a → wfE a ip = true) ∧ (a ≠ 0 → wfY a = true) := lt_s wz_98 ⟨w_98, fun _ => wy_98⟩
theorem wz_100 : ∀ a, a < 100 → (∀ ip, ip < m_cnt a → wfE a ip = true) ∧ (a ≠ 0 → wfY a = true) := lt_s wz_99 ⟨w_99, fun _ => wy_99⟩
theorem wz_101 : ∀ a, a < 101 → (∀ ip, ip < m_cnt a → wfE a ip = true) ∧ (a ≠ 0 → wfY a = true) := lt_s wz_100 ⟨w_100, fun _ => wy_100⟩
theorem wz_102 : ∀ a, a < 102 → (∀ ip, ip < m_cnt a → wfE a ip = true) ∧ (a ≠ 0 → wfY a = true) := lt_s wz_101 ⟨w_101, fun _ => wy_101⟩
theorem wz_103 : ∀ a, a < 103 → (∀ ip, ip < m_cnt a → wfE a ip = true) ∧ (a ≠ 0 → wfY a = true) := lt_s wz_102 ⟨w_102, fun _ => wy_102⟩
theorem wz_104 : ∀ a, a < 104 → (∀ ip, ip < m_cnt a → wfE a ip = true) ∧ (a ≠ 0 → wfY a = true) := lt_s wz_103 ⟨w_103, fun _ => wy_103⟩
theorem wz_105 : ∀ a, a < 105 → (∀ ip, ip < m_cnt a → wfE a ip = true) ∧ (a ≠ 0 → wfY a = true) := lt_s wz_104 ⟨w_104, fun _ => wy_104⟩
theorem wz_106 : ∀ a, a < 106 → (∀ ip, ip < m_cnt a → wfE a ip = true) ∧ (a ≠ 0 → wfY a = true) := lt_s wz_105 ⟨w_105, fun _ => wy_105⟩
theorem wz_107 : ∀ a, a < 107 → (∀ ip, ip < m_cnt a → wfE a ip = true) ∧ (a ≠ 0 → wfY a = true) := lt_s wz_106 ⟨w_106, fun _ => wy_106⟩
theorem wz_108 : ∀ a, a < 108 → (∀ ip, ip < m_cnt a → wfE a ip = true) ∧ (a ≠ 0 → wfY a = true) := lt_s wz_107 ⟨w_107, fun _ => wy_107⟩
theorem wz_109 : ∀ a, a < 109 → (∀ ip, ip < m_cnt a → wfE a ip = true) ∧ (a ≠ 0 → wfY a = true) := lt_s wz_108 ⟨w_108, fun _ => wy_108⟩
theorem wz_110 : ∀ a, a < 110 → (∀ ip, ip < m_cnt a → wfE a ip = true) ∧ (a ≠ 0 → wfY a = true) := lt_s wz_109 ⟨w_109, fun _ => wy_109⟩
theorem wz_111 : ∀ a, a < 111 → (∀ ip, ip < m_cnt a → wfE a ip = true) ∧ (a ≠ 0 → wfY a = true) := lt_s wz_110 ⟨w_110, fun _ => wy_110⟩
theorem wz_112 : ∀ a, a < 112 → (∀ ip, ip < m_cnt a → wfE a ip = true) ∧ (a ≠ 0 → wfY a = true) := lt_s wz_111 ⟨w_111, fun _ => wy_111⟩
theorem wz_113 : ∀ a, a < 113 → (∀ ip, ip < m_cnt a → wfE a ip = true) ∧ (a ≠ 0 → wfY a = true) := lt_s wz_112 ⟨w_112, fun _ => wy_112⟩
theorem wz_114 : ∀ a, a < 114 → (∀ ip, ip < m_cnt a → wfE a ip = true) ∧ (a ≠ 0 → wfY a = true) := lt_s wz_113 ⟨w_113, fun _ => wy_113⟩
theorem wz_115 : ∀ a, a < 115 → (∀ ip, ip < m_cnt a → wfE a ip = true) ∧ (a ≠ 0 → wfY a = true) := lt_s wz_114 ⟨w_114, fun _ => wy_114⟩
theorem wz_116 : ∀ a, a < 116 → (∀ ip, ip < m_cnt a → wfE a ip = true) ∧ (a ≠ 0 → wfY a = true) := lt_s wz_115 ⟨w_115, fun _ => wy_115⟩
theorem wz_117 : ∀ a, a < 117 → (∀ ip, ip < m_cnt a → wfE a ip = true) ∧ (a ≠ 0 → wfY a = true) := lt_s wz_116 ⟨w_116, fun _ => wy_116⟩
theorem wz_118 : ∀ a, a < 118 → (∀ ip, ip < m_cnt a → wfE a ip = true) ∧ (a ≠ 0 → wfY a = true) := lt_s wz_117 ⟨w_117, fun _ => wy_117⟩
theorem wz_119 : ∀ a, a < 119 → (∀ ip, ip < m_cnt a → wfE a ip = true) ∧ (a ≠ 0 → wfY a = true) := lt_s wz_118 ⟨w_118, fun _ => wy_118⟩
theorem wz_120 : ∀ a, a < 120 → (∀ ip, ip < m_cnt a → wfE a ip = true) ∧ (a ≠ 0 → wfY a = true) := lt_s wz_119 ⟨w_119, fun _ => wy_119⟩
theorem wz_121 : ∀ a, a < 121 → (∀ ip, ip < m_cnt a → wfE a ip = true) ∧ (a ≠ 0 → wfY a = true) := lt_s wz_120 ⟨w_120, fun _ => wy_120⟩
theorem wz_122 : ∀ a, a < 122 → (∀ ip, ip < m_cnt a → wfE a ip = true) ∧ (a ≠ 0 → wfY a = true) := lt_s wz_121 ⟨w_121, fun _ => wy_121⟩
theorem wz_123 : ∀ a, a < 123 → (∀ ip, ip < m_cnt a → wfE a ip = true) ∧ (a ≠ 0 → wfY a = true) := lt_s wz_122 ⟨w_122, fun _ => wy_122⟩
theorem wz_124 : ∀ a, a < 124 → (∀ ip, ip < m_cnt a → wfE a ip = true) ∧ (a ≠ 0 → wfY a = true) := lt_s wz_123 ⟨w_123, fun _ => wy_123⟩
theorem wz_125 : ∀ a, a < 125 → (∀ ip, ip < m_cnt a → wfE a ip = true) ∧ (a ≠ 0 → wfY a = true) := lt_s wz_124 ⟨w_124, fun _ => wy_124⟩
theorem wz_126 : ∀ a, a < 126 → (∀ ip, ip < m_cnt a → wfE a ip = true) ∧ (a ≠ 0 → wfY a = true) := lt_s wz_125 ⟨w_125, fun _ => wy_125⟩
theorem wz_127 : ∀ a, a < 127 → (∀ ip, ip < m_cnt a → wfE a ip = true) ∧ (a ≠ 0 → wfY a = true) := lt_s wz_126 ⟨w_126, fun _ => wy_126⟩
