theorem w_127 : ∀ ip, ip < m_cnt 127 → wfE 127 ip = true := fun ip h => List.all_eq_true.mp (show (List.range (m_cnt 127)).all (wfE 127) = true by decide +kernel) ip (List.mem_range.mpr h)
theorem wy_127 : wfY 127 = true := by decide +kernel
theorem w_128 : ∀ ip, ip < m_cnt 128 → wfE 128 ip = true := fun ip h => List.all_eq_true.mp (show (List.range (m_cnt 128)).all (wfE 128) = true by decide +kernel) ip (List.mem_range.mpr h)
theorem wy_128 : wfY 128 = true := by decide +kernel
theorem w_129 : ∀ ip, ip < m_cnt 129 → wfE 129 ip = true := fun ip h => List.all_eq_true.mp (show (List.range (m_cnt 129)).all (wfE 129) = true by decide +kernel) ip (List.mem_range.mpr h)
theorem wy_129 : wfY 129 = true := by decide +kernel
theorem w_130 : ∀ ip, ip < m_cnt 130 → wfE 130 ip = true := fun ip h => List.all_eq_true.mp (show (List.range (m_cnt 130)).all (wfE 130) = true by decide +kernel) ip (List.mem_range.mpr h)
theorem wy_130 : wfY 130 = true := by decide +kernel
theorem w_131 : ∀ ip, ip < m_cnt 131 → wfE 131 ip = true := fun ip h => List.all_eq_true.mp (show (List.range (m_cnt 131)).all (wfE 131) = true by decide +kernel) ip (List.mem_range.mpr h)
theorem wy_131 : wfY 131 = true := by decide +kernel
theorem w_132 : ∀ ip, ip < m_cnt 132 → wfE 132 ip = true := fun ip h => List.all_eq_true.mp (show (List.range (m_cnt 132)).all (wfE 132) = true by decide +kernel) ip (List.mem_range.mpr h)
theorem wy_132 : wfY 132 = true := by decide +kernel
theorem w_133 : ∀ ip, ip < m_cnt 133 → wfE 133 ip = true := fun ip h => List.all_eq_true.mp (show (List.range (m_cnt 133)).all (wfE 133) = true by decide +kernel) ip (List.mem_range.mpr h)
theorem wy_133 : wfY 133 = true := by decide +kernel
theorem w_134 : ∀ ip, ip < m_cnt 134 → wfE 134 ip = true := fun ip h => List.all_eq_true.mp (show (List.range (m_cnt 134)).all (wfE 134) = true by decide +kernel) ip (List.mem_range.mpr h)
theorem wy_134 : wfY 134 = true := by decide +kernel
theorem w_135 : ∀ ip, ip < m_cnt 135 → wfE 135 ip = true := fun ip h => List.all_eq_true.mp (show (List.range (m_cnt 135)).all (wfE 135) = true by decide +kernel) ip (List.mem_range.mpr h)
theorem wy_135 : wfY 135 = true := by decide +kernel
theorem w_136 : ∀ ip, ip < m_cnt 136 → wfE 136 ip = true := fun ip h => List.all_eq_true.mp (show (List.range (m_cnt 136)).all (wfE 136) = true by decide +kernel) ip (List.mem_range.mpr h)
theorem wy_136 : wfY 136 = true := by decide +kernel
theorem w_137 : ∀ ip, ip < m_cnt 137 → wfE 137 ip = true := fun ip h => List.all_eq_true.mp (show (List.range (m_cnt 137)).all (wfE 137) = true by decide +kernel) ip (List.mem_range.mpr h)
theorem wy_137 : wfY 137 = true := by decide +kernel
theorem w_138 : ∀ ip, ip < m_cnt 138 → wfE 138 ip = true := fun ip h => List.all_eq_true.mp (show (List.range (m_cnt 138)).all (wfE 138) = true by decide +kernel) ip (List.mem_range.mpr h)
theorem wy_138 : wfY 138 = true := by decide +kernel
theorem w_139 : ∀ ip, ip < m_cnt 139 → wfE 139 ip = true := fun ip h => List.all_eq_true.mp (show (List.range (m_cnt 139)).all (wfE 139) = true by decide +kernel) ip (List.mem_range.mpr h)
theorem wy_139 : wfY 139 = true := by decide +kernel
theorem w_140 : ∀ ip, ip < m_cnt 140 → wfE 140 ip = true := fun ip h => List.all_eq_true.mp (show (List.range (m_cnt 140)).all (wfE 140) = true by decide +kernel) ip (List.mem_range.mpr h)
theorem wy_140 : wfY 140 = true := by decide +kernel
theorem w_141 : ∀ ip, ip < m_cnt 141 → wfE 141 ip = true := fun ip h => List.all_eq_true.mp (show (List.range (m_cnt 141)).all (wfE 141) = true by decide +kernel) ip (List.mem_range.mpr h)
theorem wy_141 : wfY 141 = true := by decide +kernel
theorem w_142 : ∀ ip, ip < m_cnt 142 → wfE 142 ip = true := fun ip h => List.all_eq_true.mp (show (List.range (m_cnt 142)).all (wfE 142) = true by decide +kernel) ip (List.mem_range.mpr h)
theorem wy_142 : wfY 142 = true := by decide +kernel
theorem w_143 : ∀ ip, ip < m_cnt 143 → wfE 143 ip = true := fun ip h => List.all_eq_true.mp (show (List.range (m_cnt 143)).all (wfE 143) = true by decide +kernel) ip (List.mem_range.mpr h)
theorem wy_143 : wfY 143 = true := by decide +kernel
theorem w_144 : ∀ ip, ip < m_cnt 144 → wfE 144 ip = true := fun ip h => List.all_eq_true.mp (show (List.range (m_cnt 144)).all (wfE 144) = true by decide +kernel) ip (List.mem_range.mpr h)
theorem wy_144 : wfY 144 = true := by decide +kernel
theorem w_145 : ∀ ip, ip < m_cnt 145 → wfE 145 ip = true := fun ip h => List.all_eq_true.mp (show (List.range (m_cnt 145)).all (wfE 145) = true by decide +kernel) ip (List.mem_range.mpr h)
theorem wy_145 : wfY 145 = true := by decide +kernel
theorem w_146 : ∀ ip, ip < m_cnt 146 → wfE 146 ip = true := fun ip h => List.all_eq_true.mp (show (List.range (m_cnt 146)).all (wfE 146) = true by decide +kernel) ip (List.mem_range.mpr h)
theorem wy_146 : wfY 146 = true := by decide +kernel
theorem w_147 : ∀ ip, ip < m_cnt 147 → wfE 147 ip = true := fun ip h => List.all_eq_true.mp (show (List.range (m_cnt 147)).all (wfE 147) = true by decide +kernel) ip (List.mem_range.mpr h)
theorem wy_147 : wfY 147 = true := by decide +kernel
theorem w_148 : ∀ ip, ip < m_cnt 148 → wfE 148 ip = true := fun ip h => List.all_eq_true.mp (show (List.range (m_cnt 148)).all (wfE 148) = true by decide +kernel) ip (List.mem_range.mpr h)
theorem wy_148 : wfY 148 = true := by decide +kernel
theorem w_149 : ∀ ip, ip < m_cnt 149 → wfE 149 ip = true := fun ip h => List.all_eq_true.mp (show (List.range (m_cnt 149)).all (wfE 149) = true by decide +kernel) ip (List.mem_range.mpr h)
theorem wy_149 : wfY 149 = true := by decide +kernel
theorem w_150 : ∀ ip, ip < m_cnt 150 → wfE 150 ip = true := fun ip h => List.all_eq_true.mp (show (List.range (m_cnt 150)).all (wfE 150) = true by decide +kernel) ip (List.mem_range.mpr h)
theorem wy_150 : wfY 150 = true := by decide +kernel
theorem w_151 : ∀ ip, ip < m_cnt 151 → wfE 151 ip = true := fun ip h => List.all_eq_true.mp (show (List.range (m_cnt 151)).all (wfE 151) = true by decide +kernel) ip (List.mem_range.mpr h)
theorem wy_151 : wfY 151 = true := by decide +kernel
theorem w_152 : ∀ ip, ip < m_cnt 152 → wfE 152 ip = true := fun ip h => List.all_eq_true.mp (show (List.range (m_cnt 152)).all (wfE 152) = true by decide +kernel) ip (List.mem_range.mpr h)
theorem wy_152 : wfY 152 = true := by decide +kernel
theorem w_153 : ∀ ip, ip < m_cnt 153 → wfE 153 ip = true := fun ip h => List.all_eq_true.mp (show (List.range (m_cnt 153)).all (wfE 153) = true by decide +kernel) ip (List.mem_range.mpr h)
theorem wy_153 : wfY 153 = true := by decide +kernel
theorem w_154 : ∀ ip, ip < m_cnt 154 → wfE 154 ip = true := fun ip h => List.all_eq_true.mp (show (List.range (m_cnt 154)).all (wfE 154) = true by decide +kernel) ip (List.mem_range.mpr h)
theorem wy_154 : wfY 154 = true := by decide +kernel
theorem w_155 : ∀ ip, ip < m_cnt 155 → wfE 155 ip = true := fun ip h => List.all_eq_true.mp (show (List.range (m_cnt 155)).all (wfE 155) = true by decide +kernel) ip (List.mem_range.mpr h)
theorem wy_155 : wfY 155 = true := by decide +kernel
theorem w_156 : ∀ ip, ip < m_cnt 156 → wfE 156 ip = true := fun ip h => List.all_eq_true.mp (show (List.range (m_cnt 156)).all (wfE 156) = true by decide +kernel) ip (List.mem_range.mpr h)
theorem wy_156 : wfY 156 = true := by decide +kernel
theorem w_157 : ∀ ip, ip < m_cnt 157 → wfE 157 ip = true := fun ip h => List.all_eq_true.mp (show (List.range (m_cnt 157)).all (wfE 157) = true by decide +kernel) ip (List.mem_range.mpr h)
theorem wy_157 : wfY 157 = true := by decide +kernel
theorem w_158 : ∀ ip, ip < m_cnt 158 → wfE 158 ip = true := fun ip h => List.all_eq_true.mp (show (List.range (m_cnt 158)).all (wfE 158) = true by decide +kernel) ip (List.mem_range.mpr h)
theorem wy_158 : wfY 158 = true := by decide +kernel
theorem w_159 : ∀ ip, ip < m_cnt 159 → wfE 159 ip = true := fun ip h => List.all_eq_true.mp (show (List.range (m_cnt 159)).all (wfE 159) = true by decide +kernel) ip (List.mem_range.mpr h)
theorem wy_159 : wfY 159 = true := by decide +kernel
theorem w_160 : ∀ ip, ip < m_cnt 160 → wfE 160 ip = true := fun ip h => List.all_eq_true.mp (show (List.range (m_cnt 160)).all (wfE 160) = true by decide +kernel) ip (List.mem_range.mpr h)
theorem wy_160 : wfY 160 = true := by decide +kernel
theorem w_161 : ∀ ip, ip < m_cnt 161 → wfE 161 ip = true := fun ip h => List.all_eq_true.mp (show (List.range (m_cnt 161)).all (wfE 161) = true by decide +kernel) ip (List.mem_range.mpr h)
theorem wy_161 : wfY 161 = true := by decide +kernel
theorem w_162 : ∀ ip, ip < m_cnt 162 → wfE 162 ip = true := fun ip h => List.all_eq_true.mp (show (List.range (m_cnt 162)).all (wfE 162) = true by decide +kernel) ip (List.mem_range.mpr h)
theorem wy_162 : wfY 162 = true := by decide +kernel
theorem w_163 : ∀ ip, ip < m_cnt 163 → wfE 163 ip = true := fun ip h => List.all_eq_true.mp (show (List.range (m_cnt 163)).all (wfE 163) = true by decide +kernel) ip (List.mem_range.mpr h)
theorem wy_163 : wfY 163 = true := by decide +kernel
theorem w_164 : ∀ ip, ip < m_cnt 164 → wfE 164 ip = true := fun ip h => List.all_eq_true.mp (show (List.range (m_cnt 164)).all (wfE 164) = true by decide +kernel) ip (List.mem_range.mpr h)
theorem wy_164 : wfY 164 = true := by decide +kernel
theorem w_165 : ∀ ip, ip < m_cnt 165 → wfE 165 ip = true := fun ip h => List.all_eq_true.mp (show (List.range (m_cnt 165)).all (wfE 165) = true by decide +kernel) ip (List.mem_range.mpr h)
theorem wy_165 : wfY 165 = true := by decide +kernel
theorem w_166 : ∀ ip, ip < m_cnt 166 → wfE 166 ip = true := fun ip h => List.all_eq_true.mp (show (List.range (m_cnt 166)).all (wfE 166) = true by decide +kernel) ip (List.mem_range.mpr h)
theorem wy_166 : wfY 166 = true := by decide +kernel
theorem w_167 : ∀ ip, ip < m_cnt 167 → wfE 167 ip = true := fun ip h => List.all_eq_true.mp (show (List.range (m_cnt 167)).all (wfE 167) = true by decide +kernel) ip (List.mem_range.mpr h)
theorem wy_167 : wfY 167 = true := by decide +kernel
theorem w_168 : ∀ ip, ip < m_cnt 168 → wfE 168 ip = true := fun ip h => List.all_eq_true.mp (show (List.range (m_cnt 168)).all (wfE 168) = true by decide +kernel) ip (List.mem_range.mpr h)
theorem wy_168 : wfY 168 = true := by decide +kernel
theorem wz_128 : ∀ a, a < 128 → (∀ ip, ip < m_cnt a → wfE a ip = true) ∧ (a ≠ 0 → wfY a = true) := lt_s wz_127 ⟨w_127, fun _ => wy_127⟩
theorem wz_129 : ∀ a, a < 129 → (∀ ip, ip < m_cnt a → wfE a ip = true) ∧ (a ≠ 0 → wfY a = true) := lt_s wz_128 ⟨w_128, fun _ => wy_128⟩
theorem wz_130 : ∀ a, a < 130 → (∀ ip, ip < m_cnt a → wfE a ip = true) ∧ (a ≠ 0 → wfY a = true) := lt_s wz_129 ⟨w_129, fun _ => wy_129⟩
theorem wz_131 : ∀ a, a < 131 → (∀ ip, ip < m_cnt a → wfE a ip = true) ∧ (a ≠ 0 → wfY a = true) := lt_s wz_130 ⟨w_130, fun _ => wy_130⟩
theorem wz_132 : ∀ a, a < 132 → (∀ ip, ip < m_cnt a → wfE a ip = true) ∧ (a ≠ 0 → wfY a = true) := lt_s wz_131 ⟨w_131, fun _ => wy_131⟩
theorem wz_133 : ∀ a, a < 133 → (∀ ip, ip < m_cnt a → wfE a ip = true) ∧ (a ≠ 0 → wfY a = true) := lt_s wz_132 ⟨w_132, fun _ => wy_132⟩
theorem wz_134 : ∀ a, a < 134 → (∀ ip, ip < m_cnt a → wfE a ip = true) ∧ (a ≠ 0 → wfY a = true) := lt_s wz_133 ⟨w_133, fun _ => wy_133⟩
theorem wz_135 : ∀ a, a < 135 → (∀ ip, ip < m_cnt a → wfE a ip = true) ∧ (a ≠ 0 → wfY a = true) := lt_s wz_134 ⟨w_134, fun _ => wy_134⟩
theorem wz_136 : ∀ a, a < 136 → (∀ ip, ip < m_cnt a → wfE a ip = true) ∧ (a ≠ 0 → wfY a = true) := lt_s wz_135 ⟨w_135, fun _ => wy_135⟩
theorem wz_137 : ∀ a, a < 137 → (∀ ip, ip < m_cnt a → wfE a ip = true) ∧ (a ≠ 0 → wfY a = true) := lt_s wz_136 ⟨w_136, fun _ => wy_136⟩
theorem wz_138 : ∀ a, a < 138 → (∀ ip, ip < m_cnt a → wfE a ip = true) ∧ (a ≠ 0 → wfY a = true) := lt_s wz_137 ⟨w_137, fun _ => wy_137⟩
theorem wz_139 : ∀ a, a < 139 → (∀ ip, ip < m_cnt a → wfE a ip = true) ∧ (a ≠ 0 → wfY a = true) := lt_s wz_138 ⟨w_138, fun _ => wy_138⟩
theorem wz_140 : ∀ a, a < 140 → (∀ ip, ip < m_cnt a → wfE a ip = true) ∧ (a ≠ 0 → wfY a = true) := lt_s wz_139 ⟨w_139, fun _ => wy_139⟩
theorem wz_141 : ∀ a, a < 141 → (∀ ip, ip < m_cnt a → wfE a ip = true) ∧ (a ≠ 0 → wfY a = true) := lt_s wz_140 ⟨w_140, fun _ => wy_140⟩
theorem wz_142 : ∀ a, a < 142 → (∀ ip, ip < m_cnt a → wfE a ip = true) ∧ (a ≠ 0 → wfY a = true) := lt_s wz_141 ⟨w_141, fun _ => wy_141⟩
theorem wz_143 : ∀ a, a < 143 → (∀ ip, ip < m_cnt a → wfE a ip = true) ∧ (a ≠ 0 → wfY a = true) := lt_s wz_142 ⟨w_142, fun _ => wy_142⟩
theorem wz_144 : ∀ a, a < 144 → (∀ ip, ip < m_cnt a → wfE a ip = true) ∧ (a ≠ 0 → wfY a = true) := lt_s wz_143 ⟨w_143, fun _ => wy_143⟩
theorem wz_145 : ∀ a, a < 145 → (∀ ip, ip < m_cnt a → wfE a ip = true) ∧ (a ≠ 0 → wfY a = true) := lt_s wz_144 ⟨w_144, fun _ => wy_144⟩
theorem wz_146 : ∀ a, a < 146 → (∀ ip, ip < m_cnt a → wfE a ip = true) ∧ (a ≠ 0 → wfY a = true) := lt_s wz_145 ⟨w_145, fun _ => wy_145⟩
theorem wz_147 : ∀ a, a < 147 → (∀ ip, ip < m_cnt a → wfE a ip = true) ∧ (a ≠ 0 → wfY a = true) := lt_s wz_146 ⟨w_146, fun _ => wy_146⟩
theorem wz_148 : ∀ a, a < 148 → (∀ ip, ip < m_cnt a → wfE a ip = true) ∧ (a ≠ 0 → wfY a = true) := lt_s wz_147 ⟨w_147, fun _ => wy_147⟩
theorem wz_149 : ∀ a, a < 149 → (∀ ip, ip < m_cnt a → wfE a ip = true) ∧ (a ≠ 0 → wfY a = true) := lt_s wz_148 ⟨w_148, fun _ => wy_148⟩
theorem wz_150 : ∀ a, a < 150 → (∀ ip, ip < m_cnt a → wfE a ip = true) ∧ (a ≠ 0 → wfY a = true) := lt_s wz_149 ⟨w_149, fun _ => wy_149⟩
theorem wz_151 : ∀ a, a < 151 → (∀ ip, ip < m_cnt a → wfE a ip = true) ∧ (a ≠ 0 → wfY a = true) := lt_s wz_150 ⟨w_150, fun _ => wy_150⟩
theorem wz_152 : ∀ a, a < 152 → (∀ ip, ip < m_cnt a → wfE a ip = true) ∧ (a ≠ 0 → wfY a = true) := lt_s wz_151 ⟨w_151, fun _ => wy_151⟩
theorem wz_153 : ∀ a, a < 153 → (∀ ip, ip < m_cnt a → wfE a ip = true) ∧ (a ≠ 0 → wfY a = true) := lt_s wz_152 ⟨w_152, fun _ => wy_152⟩
theorem wz_154 : ∀ a, a < 154 → (∀ ip, ip < m_cnt a → wfE a ip = true) ∧ (a ≠ 0 → wfY a = true) := lt_s wz_153 ⟨w_153, fun _ => wy_153⟩
theorem wz_155 : ∀ a, a < 155 → (∀ ip, ip < m_cnt a → wfE a ip = true) ∧ (a ≠ 0 → wfY a = true) := lt_s wz_154 ⟨w_154, fun _ => wy_154⟩
theorem wz_156 : ∀ a, a < 156 → (∀ ip, ip < m_cnt a → wfE a ip = true) ∧ (a ≠ 0 → wfY a = true) := lt_s wz_155 ⟨w_155, fun _ => wy_155⟩
theorem wz_157 : ∀ a, a < 157 → (∀ ip, ip < m_cnt a → wfE a ip = true) ∧ (a ≠ 0 → wfY a = true) := lt_s wz_156 ⟨w_156, fun _ => wy_156⟩
theorem wz_158 : ∀ a, a < 158 → (∀ ip, ip < m_cnt a → wfE a ip = true) ∧ (a ≠ 0 → wfY a = true) := lt_s wz_157 ⟨w_157, fun _ => wy_157⟩
theorem wz_159 : ∀ a, a < 159 → (∀ ip, ip < m_cnt a → wfE a ip = true) ∧ (a ≠ 0 → wfY a = true) := lt_s wz_158 ⟨w_158, fun _ => wy_158⟩
theorem wz_160 : ∀ a, a < 160 → (∀ ip, ip < m_cnt a → wfE a ip = true) ∧ (a ≠ 0 → wfY a = true) := lt_s wz_159 ⟨w_159, fun _ => wy_159⟩
theorem wz_161 : ∀ a, a < 161 → (∀ ip, ip < m_cnt a → wfE a ip = true) ∧ (a ≠ 0 → wfY a = true) := lt_s wz_160 ⟨w_160, fun _ => wy_160⟩
theorem wz_162 : ∀ a, a < 162 → (∀ ip, ip < m_cnt a → wfE a ip = true) ∧ (a ≠ 0 → wfY a = true) := lt_s wz_161 ⟨w_161, fun _ => wy_161⟩
theorem wz_163 : ∀ a, a < 163 → (∀ ip, ip < m_cnt a → wfE a ip = true) ∧ (a ≠ 0 → wfY a = true) := lt_s wz_162 ⟨w_162, fun _ => wy_162⟩
theorem wz_164 : ∀ a, a < 164 → (∀ ip, ip < m_cnt a → wfE a ip = true) ∧ (a ≠ 0 → wfY a = true) := lt_s wz_163 ⟨w_163, fun _ => wy_163⟩
theorem wz_165 : ∀ a, a < 165 → (∀ ip, ip < m_cnt a → wfE a ip = true) ∧ (a ≠ 0 → wfY a = true) := lt_s wz_164 ⟨w_164, fun _ => wy_164⟩
theorem wz_166 : ∀ a, a < 166 → (∀ ip, ip < m_cnt a → wfE a ip = true) ∧ (a ≠ 0 → wfY a = true) := lt_s wz_165 ⟨w_165, fun _ => wy_165⟩
theorem wz_167 : ∀ a, a < 167 → (∀ ip, ip < m_cnt a → wfE a ip = true) ∧ (a ≠ 0 → wfY a = true) := lt_s wz_166 ⟨w_166, fun _ => wy_166⟩
theorem wz_168 : ∀ a, a < 168 → (∀ ip, ip < m_cnt a → wfE a ip = true) ∧ (a ≠ 0 → wfY a = true) := lt_s wz_167 ⟨w_167, fun _ => wy_167⟩
theorem wz_169 : ∀ a, a < 169 → (∀ ip, ip < m_cnt a → wfE a ip = true) ∧ (a ≠ 0 → wfY a = true) := lt_s wz_168 ⟨w_168, fun _ => wy_168⟩
