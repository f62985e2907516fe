theorem w_169 : ∀ ip, ip < m_cnt 169 → wfE 169 ip = true := fun ip h => List.all_eq_true.mp (show (List.range (m_cnt 169)).all (wfE 169) = true by decide +kernel) ip (List.mem_range.mpr h)
theorem wy_169 : wfY 169 = true := by decide +kernel
theorem w_170 : ∀ ip, ip < m_cnt 170 → wfE 170 ip = true := fun ip h => List.all_eq_true.mp (show (List.range (m_cnt 170)).all (wfE 170) = true by decide +kernel) ip (List.mem_range.mpr h)
theorem wy_170 : wfY 170 = true := by decide +kernel
theorem w_171 : ∀ ip, ip < m_cnt 171 → wfE 171 ip = true := fun ip h => List.all_eq_true.mp (show (List.range (m_cnt 171)).all (wfE 171) = true by decide +kernel) ip (List.mem_range.mpr h)
theorem wy_171 : wfY 171 = true := by decide +kernel
theorem w_172 : ∀ ip, ip < m_cnt 172 → wfE 172 ip = true := fun ip h => List.all_eq_true.mp (show (List.range (m_cnt 172)).all (wfE 172) = true by decide +kernel) ip (List.mem_range.mpr h)
theorem wy_172 : wfY 172 = true := by decide +kernel
theorem w_173 : ∀ ip, ip < m_cnt 173 → wfE 173 ip = true := fun ip h => List.all_eq_true.mp (show (List.range (m_cnt 173)).all (wfE 173) = true by decide +kernel) ip (List.mem_range.mpr h)
theorem wy_173 : wfY 173 = true := by decide +kernel
theorem w_174 : ∀ ip, ip < m_cnt 174 → wfE 174 ip = true := fun ip h => List.all_eq_true.mp (show (List.range (m_cnt 174)).all (wfE 174) = true by decide +kernel) ip (List.mem_range.mpr h)
theorem wy_174 : wfY 174 = true := by decide +kernel
theorem w_175 : ∀ ip, ip < m_cnt 175 → wfE 175 ip = true := fun ip h => List.all_eq_true.mp (show (List.range (m_cnt 175)).all (wfE 175) = true by decide +kernel) ip (List.mem_range.mpr h)
theorem wy_175 : wfY 175 = true := by decide +kernel
theorem w_176 : ∀ ip, ip < m_cnt 176 → wfE 176 ip = true := fun ip h => List.all_eq_true.mp (show (List.range (m_cnt 176)).all (wfE 176) = true by decide +kernel) ip (List.mem_range.mpr h)
theorem wy_176 : wfY 176 = true := by decide +kernel
theorem w_177 : ∀ ip, ip < m_cnt 177 → wfE 177 ip = true := fun ip h => List.all_eq_true.mp (show (List.range (m_cnt 177)).all (wfE 177) = true by decide +kernel) ip (List.mem_range.mpr h)
theorem wy_177 : wfY 177 = true := by decide +kernel
theorem w_178 : ∀ ip, ip < m_cnt 178 → wfE 178 ip = true := fun ip h => List.all_eq_true.mp (show (List.range (m_cnt 178)).all (wfE 178) = true by decide +kernel) ip (List.mem_range.mpr h)
theorem wy_178 : wfY 178 = true := by decide +kernel
theorem w_179 : ∀ ip, ip < m_cnt 179 → wfE 179 ip = true := fun ip h => List.all_eq_true.mp (show (List.range (m_cnt 179)).all (wfE 179) = true by decide +kernel) ip (List.mem_range.mpr h)
theorem wy_179 : wfY 179 = true := by decide +kernel
theorem w_180 : ∀ ip, ip < m_cnt 180 → wfE 180 ip = true := fun ip h => List.all_eq_true.mp (show (List.range (m_cnt 180)).all (wfE 180) = true by decide +kernel) ip (List.mem_range.mpr h)
theorem wy_180 : wfY 180 = true := by decide +kernel
theorem w_181 : ∀ ip, ip < m_cnt 181 → wfE 181 ip = true := fun ip h => List.all_eq_true.mp (show (List.range (m_cnt 181)).all (wfE 181) = true by decide +kernel) ip (List.mem_range.mpr h)
theorem wy_181 : wfY 181 = true := by decide +kernel
theorem w_182 : ∀ ip, ip < m_cnt 182 → wfE 182 ip = true := fun ip h => List.all_eq_true.mp (show (List.range (m_cnt 182)).all (wfE 182) = true by decide +kernel) ip (List.mem_range.mpr h)
theorem wy_182 : wfY 182 = true := by decide +kernel
theorem w_183 : ∀ ip, ip < m_cnt 183 → wfE 183 ip = true := fun ip h => List.all_eq_true.mp (show (List.range (m_cnt 183)).all (wfE 183) = true by decide +kernel) ip (List.mem_range.mpr h)
theorem wy_183 : wfY 183 = true := by decide +kernel
theorem w_184 : ∀ ip, ip < m_cnt 184 → wfE 184 ip = true := fun ip h => List.all_eq_true.mp (show (List.range (m_cnt 184)).all (wfE 184) = true by decide +kernel) ip (List.mem_range.mpr h)
theorem wy_184 : wfY 184 = true := by decide +kernel
theorem w_185 : ∀ ip, ip < m_cnt 185 → wfE 185 ip = true := fun ip h => List.all_eq_true.mp (show (List.range (m_cnt 185)).all (wfE 185) = true by decide +kernel) ip (List.mem_range.mpr h)
theorem wy_185 : wfY 185 = true := by decide +kernel
theorem w_186 : ∀ ip, ip < m_cnt 186 → wfE 186 ip = true := fun ip h => List.all_eq_true.mp (show (List.range (m_cnt 186)).all (wfE 186) = true by decide +kernel) ip (List.mem_range.mpr h)
theorem wy_186 : wfY 186 = true := by decide +kernel
theorem w_187 : ∀ ip, ip < m_cnt 187 → wfE 187 ip = true := fun ip h => List.all_eq_true.mp (show (List.range (m_cnt 187)).all (wfE 187) = true by decide +kernel) ip (List.mem_range.mpr h)
theorem wy_187 : wfY 187 = true := by decide +kernel
theorem w_188 : ∀ ip, ip < m_cnt 188 → wfE 188 ip = true := fun ip h => List.all_eq_true.mp (show (List.range (m_cnt 188)).all (wfE 188) = true by decide +kernel) ip (List.mem_range.mpr h)
theorem wy_188 : wfY 188 = true := by decide +kernel
theorem w_189 : ∀ ip, ip < m_cnt 189 → wfE 189 ip = true := fun ip h => List.all_eq_true.mp (show (List.range (m_cnt 189)).all (wfE 189) = true by decide +kernel) ip (List.mem_range.mpr h)
theorem wy_189 : wfY 189 = true := by decide +kernel
theorem w_190 : ∀ ip, ip < m_cnt 190 → wfE 190 ip = true := fun ip h => List.all_eq_true.mp (show (List.range (m_cnt 190)).all (wfE 190) = true by decide +kernel) ip (List.mem_range.mpr h)
theorem wy_190 : wfY 190 = true := by decide +kernel
theorem w_191 : ∀ ip, ip < m_cnt 191 → wfE 191 ip = true := fun ip h => List.all_eq_true.mp (show (List.range (m_cnt 191)).all (wfE 191) = true by decide +kernel) ip (List.mem_range.mpr h)
theorem wy_191 : wfY 191 = true := by decide +kernel
theorem w_192 : ∀ ip, ip < m_cnt 192 → wfE 192 ip = true := fun ip h => List.all_eq_true.mp (show (List.range (m_cnt 192)).all (wfE 192) = true by decide +kernel) ip (List.mem_range.mpr h)
theorem wy_192 : wfY 192 = true := by decide +kernel
theorem w_193 : ∀ ip, ip < m_cnt 193 → wfE 193 ip = true := fun ip h => List.all_eq_true.mp (show (List.range (m_cnt 193)).all (wfE 193) = true by decide +kernel) ip (List.mem_range.mpr h)
theorem wy_193 : wfY 193 = true := by decide +kernel
theorem w_194 : ∀ ip, ip < m_cnt 194 → wfE 194 ip = true := fun ip h => List.all_eq_true.mp (show (List.range (m_cnt 194)).all (wfE 194) = true by decide +kernel) ip (List.mem_range.mpr h)
theorem wy_194 : wfY 194 = true := by decide +kernel
theorem w_195 : ∀ ip, ip < m_cnt 195 → wfE 195 ip = true := fun ip h => List.all_eq_true.mp (show (List.range (m_cnt 195)).all (wfE 195) = true by decide +kernel) ip (List.mem_range.mpr h)
theorem wy_195 : wfY 195 = true := by decide +kernel
theorem w_196 : ∀ ip, ip < m_cnt 196 → wfE 196 ip = true := fun ip h => List.all_eq_true.mp (show (List.range (m_cnt 196)).all (wfE 196) = true by decide +kernel) ip (List.mem_range.mpr h)
theorem wy_196 : wfY 196 = true := by decide +kernel
theorem w_197 : ∀ ip, ip < m_cnt 197 → wfE 197 ip = true := fun ip h => List.all_eq_true.mp (show (List.range (m_cnt 197)).all (wfE 197) = true by decide +kernel) ip (List.mem_range.mpr h)
theorem wy_197 : wfY 197 = true := by decide +kernel
theorem w_198 : ∀ ip, ip < m_cnt 198 → wfE 198 ip = true := fun ip h => List.all_eq_true.mp (show (List.range (m_cnt 198)).all (wfE 198) = true by decide +kernel) ip (List.mem_range.mpr h)
theorem wy_198 : wfY 198 = true := by decide +kernel
theorem w_199 : ∀ ip, ip < m_cnt 199 → wfE 199 ip = true := fun ip h => List.all_eq_true.mp (show (List.range (m_cnt 199)).all (wfE 199) = true by decide +kernel) ip (List.mem_range.mpr h)
theorem wy_199 : wfY 199 = true := by decide +kernel
theorem w_200 : ∀ ip, ip < m_cnt 200 → wfE 200 ip = true := fun ip h => List.all_eq_true.mp (show (List.range (m_cnt 200)).all (wfE 200) = true by decide +kernel) ip (List.mem_range.mpr h)
theorem wy_200 : wfY 200 = true := by decide +kernel
theorem w_201 : ∀ ip, ip < m_cnt 201 → wfE 201 ip = true := fun ip h => List.all_eq_true.mp (show (List.range (m_cnt 201)).all (wfE 201) = true by decide +kernel) ip (List.mem_range.mpr h)
theorem wy_201 : wfY 201 = true := by decide +kernel
theorem w_202 : ∀ ip, ip < m_cnt 202 → wfE 202 ip = true := fun ip h => List.all_eq_true.mp (show (List.range (m_cnt 202)).all (wfE 202) = true by decide +kernel) ip (List.mem_range.mpr h)
theorem wy_202 : wfY 202 = true := by decide +kernel
theorem w_203 : ∀ ip, ip < m_cnt 203 → wfE 203 ip = true := fun ip h => List.all_eq_true.mp (show (List.range (m_cnt 203)).all (wfE 203) = true by decide +kernel) ip (List.mem_range.mpr h)
theorem wy_203 : wfY 203 = true := by decide +kernel
theorem w_204 : ∀ ip, ip < m_cnt 204 → wfE 204 ip = true := fun ip h => List.all_eq_true.mp (show (List.range (m_cnt 204)).all (wfE 204) = true by decide +kernel) ip (List.mem_range.mpr h)
theorem wy_204 : wfY 204 = true := by decide +kernel
theorem w_205 : ∀ ip, ip < m_cnt 205 → wfE 205 ip = true := fun ip h => List.all_eq_true.mp (show (List.range (m_cnt 205)).all (wfE 205) = true by decide +kernel) ip (List.mem_range.mpr h)
theorem wy_205 : wfY 205 = true := by decide +kernel
theorem w_206 : ∀ ip, ip < m_cnt 206 → wfE 206 ip = true := fun ip h => List.all_eq_true.mp (show (List.range (m_cnt 206)).all (wfE 206) = true by decide +kernel) ip (List.mem_range.mpr h)
theorem wy_206 : wfY 206 = true := by decide +kernel
theorem w_207 : ∀ ip, ip < m_cnt 207 → wfE 207 ip = true := fun ip h => List.all_eq_true.mp (show (List.range (m_cnt 207)).all (wfE 207) = true by decide +kernel) ip (List.mem_range.mpr h)
theorem wy_207 : wfY 207 = true := by decide +kernel
theorem w_208 : ∀ ip, ip < m_cnt 208 → wfE 208 ip = true := fun ip h => List.all_eq_true.mp (show (List.range (m_cnt 208)).all (wfE 208) = true by decide +kernel) ip (List.mem_range.mpr h)
theorem wy_208 : wfY 208 = true := by decide +kernel
theorem w_209 : ∀ ip, ip < m_cnt 209 → wfE 209 ip = true := fun ip h => List.all_eq_true.mp (show (List.range (m_cnt 209)).all (wfE 209) = true by decide +kernel) ip (List.mem_range.mpr h)
theorem wy_209 : wfY 209 = true := by decide +kernel
theorem w_210 : ∀ ip, ip < m_cnt 210 → wfE 210 ip = true := fun ip h => List.all_eq_true.mp (show (List.range (m_cnt 210)).all (wfE 210) = true by decide +kernel) ip (List.mem_range.mpr h)
theorem wy_210 : wfY 210 = true := by decide +kernel
theorem wz_170 : ∀ a, a < 170 → (∀ ip, ip < m_cnt a → wfE a ip = true) ∧ (a ≠ 0 → wfY a = true) := lt_s wz_169 ⟨w_169, fun _ => wy_169⟩
theorem wz_171 : ∀ a, a < 171 → (∀ ip, ip < m_cnt a → wfE a ip = true) ∧ (a ≠ 0 → wfY a = true) := lt_s wz_170 ⟨w_170, fun _ => wy_170⟩
theorem wz_172 : ∀ a, a < 172 → (∀ ip, ip < m_cnt a → wfE a ip = true) ∧ (a ≠ 0 → wfY a = true) := lt_s wz_171 ⟨w_171, fun _ => wy_171⟩
theorem wz_173 : ∀ a, a < 173 → (∀ ip, ip < m_cnt a → wfE a ip = true) ∧ (a ≠ 0 → wfY a = true) := lt_s wz_172 ⟨w_172, fun _ => wy_172⟩
theorem wz_174 : ∀ a, a < 174 → (∀ ip, ip < m_cnt a → wfE a ip = true) ∧ (a ≠ 0 → wfY a = true) := lt_s wz_173 ⟨w_173, fun _ => wy_173⟩
theorem wz_175 : ∀ a, a < 175 → (∀ ip, ip < m_cnt a → wfE a ip = true) ∧ (a ≠ 0 → wfY a = true) := lt_s wz_174 ⟨w_174, fun _ => wy_174⟩
theorem wz_176 : ∀ a, a < 176 → (∀ ip, ip < m_cnt a → wfE a ip = true) ∧ (a ≠ 0 → wfY a = true) := lt_s wz_175 ⟨w_175, fun _ => wy_175⟩
theorem wz_177 : ∀ a, a < 177 → (∀ ip, ip < m_cnt a → wfE a ip = true) ∧ (a ≠ 0 → wfY a = true) := lt_s wz_176 ⟨w_176, fun _ => wy_176⟩
theorem wz_178 : ∀ a, a < 178 → (∀ ip, ip < m_cnt a → wfE a ip = true) ∧ (a ≠ 0 → wfY a = true) := lt_s wz_177 ⟨w_177, fun _ => wy_177⟩
theorem wz_179 : ∀ a, a < 179 → (∀ ip, ip < m_cnt a → wfE a ip = true) ∧ (a ≠ 0 → wfY a = true) := lt_s wz_178 ⟨w_178, fun _ => wy_178⟩
theorem wz_180 : ∀ a, a < 180 → (∀ ip, ip < m_cnt a → wfE a ip = true) ∧ (a ≠ 0 → wfY a = true) := lt_s wz_179 ⟨w_179, fun _ => wy_179⟩
theorem wz_181 : ∀ a, a < 181 → (∀ ip, ip < m_cnt a → wfE a ip = true) ∧ (a ≠ 0 → wfY a = true) := lt_s wz_180 ⟨w_180, fun _ => wy_180⟩
theorem wz_182 : ∀ a, a < 182 → (∀ ip, ip < m_cnt a → wfE a ip = true) ∧ (a ≠ 0 → wfY a = true) := lt_s wz_181 ⟨w_181, fun _ => wy_181⟩
theorem wz_183 : ∀ a, a < 183 → (∀ ip, ip < m_cnt a → wfE a ip = true) ∧ (a ≠ 0 → wfY a = true) := lt_s wz_182 ⟨w_182, fun _ => wy_182⟩
theorem wz_184 : ∀ a, a < 184 → (∀ ip, ip < m_cnt a → wfE a ip = true) ∧ (a ≠ 0 → wfY a = true) := lt_s wz_183 ⟨w_183, fun _ => wy_183⟩
theorem wz_185 : ∀ a, a < 185 → (∀ ip, ip < m_cnt a → wfE a ip = true) ∧ (a ≠ 0 → wfY a = true) := lt_s wz_184 ⟨w_184, fun _ => wy_184⟩
theorem wz_186 : ∀ a, a < 186 → (∀ ip, ip < m_cnt a → wfE a ip = true) ∧ (a ≠ 0 → wfY a = true) := lt_s wz_185 ⟨w_185, fun _ => wy_185⟩
theorem wz_187 : ∀ a, a < 187 → (∀ ip, ip < m_cnt a → wfE a ip = true) ∧ (a ≠ 0 → wfY a = true) := lt_s wz_186 ⟨w_186, fun _ => wy_186⟩
theorem wz_188 : ∀ a, a < 188 → (∀ ip, ip < m_cnt a → wfE a ip = true) ∧ (a ≠ 0 → wfY a = true) := lt_s wz_187 ⟨w_187, fun _ => wy_187⟩
theorem wz_189 : ∀ a, a < 189 → (∀ ip, ip < m_cnt a → wfE a ip = true) ∧ (a ≠ 0 → wfY a = true) := lt_s wz_188 ⟨w_188, fun _ => wy_188⟩
theorem wz_190 : ∀ a, a < 190 → (∀ ip, ip < m_cnt a → wfE a ip = true) ∧ (a ≠ 0 → wfY a = true) := lt_s wz_189 ⟨w_189, fun _ => wy_189⟩
theorem wz_191 : ∀ a, a < 191 → (∀ ip, ip < m_cnt a → wfE a ip = true) ∧ (a ≠ 0 → wfY a = true) := lt_s wz_190 ⟨w_190, fun _ => wy_190⟩
theorem wz_192 : ∀ a, a < 192 → (∀ ip, ip < m_cnt a → wfE a ip = true) ∧ (a ≠ 0 → wfY a = true) := lt_s wz_191 ⟨w_191, fun _ => wy_191⟩
theorem wz_193 : ∀ a, a < 193 → (∀ ip, ip < m_cnt a → wfE a ip = true) ∧ (a ≠ 0 → wfY a = true) := lt_s wz_192 ⟨w_192, fun _ => wy_192⟩
theorem wz_194 : ∀ a, a < 194 → (∀ ip, ip < m_cnt a → wfE a ip = true) ∧ (a ≠ 0 → wfY a = true) := lt_s wz_193 ⟨w_193, fun _ => wy_193⟩
theorem wz_195 : ∀ a, a < 195 → (∀ ip, ip < m_cnt a → wfE a ip = true) ∧ (a ≠ 0 → wfY a = true) := lt_s wz_194 ⟨w_194, fun _ => wy_194⟩
theorem wz_196 : ∀ a, a < 196 → (∀ ip, ip < m_cnt a → wfE a ip = true) ∧ (a ≠ 0 → wfY a = true) := lt_s wz_195 ⟨w_195, fun _ => wy_195⟩
theorem wz_197 : ∀ a, a < 197 → (∀ ip, ip < m_cnt a → wfE a ip = true) ∧ (a ≠ 0 → wfY a = true) := lt_s wz_196 ⟨w_196, fun _ => wy_196⟩
theorem wz_198 : ∀ a, a < 198 → (∀ ip, ip < m_cnt a → wfE a ip = true) ∧ (a ≠ 0 → wfY a = true) := lt_s wz_197 ⟨w_197, fun _ => wy_197⟩
theorem wz_199 : ∀ a, a < 199 → (∀ ip, ip < m_cnt a → wfE a ip = true) ∧ (a ≠ 0 → wfY a = true) := lt_s wz_198 ⟨w_198, fun _ => wy_198⟩
theorem wz_200 : ∀ a, a < 200 → (∀ ip, ip < m_cnt a → wfE a ip = true) ∧ (a ≠ 0 → wfY a = true) := lt_s wz_199 ⟨w_199, fun _ => wy_199⟩
theorem wz_201 : ∀ a, a < 201 → (∀ ip, ip < m_cnt a → wfE a ip = true) ∧ (a ≠ 0 → wfY a = true) := lt_s wz_200 ⟨w_200, fun _ => wy_200⟩
theorem wz_202 : ∀ a, a < 202 → (∀ ip, ip < m_cnt a → wfE a ip = true) ∧ (a ≠ 0 → wfY a = true) := lt_s wz_201 ⟨w_201, fun _ => wy_201⟩
theorem wz_203 : ∀ a, a < 203 → (∀ ip, ip < m_cnt a → wfE a ip = true) ∧ (a ≠ 0 → wfY a = true) := lt_s wz_202 ⟨w_202, fun _ => wy_202⟩
theorem wz_204 : ∀ a, a < 204 → (∀ ip, ip < m_cnt a → wfE a ip = true) ∧ (a ≠ 0 → wfY a = true) := lt_s wz_203 ⟨w_203, fun _ => wy_203⟩
theorem wz_205 : ∀ a, a < 205 → (∀ ip, ip < m_cnt a → wfE a ip = true) ∧ (a ≠ 0 → wfY a = true) := lt_s wz_204 ⟨w_204, fun _ => wy_204⟩
theorem wz_206 : ∀ a, a < 206 → (∀ ip, ip < m_cnt a → wfE a ip = true) ∧ (a ≠ 0 → wfY a = true) := lt_s wz_205 ⟨w_205, fun _ => wy_205⟩
theorem wz_207 : ∀ a, a < 207 → (∀ ip, ip < m_cnt a → wfE a ip = true) ∧ (a ≠ 0 → wfY a = true) := lt_s wz_206 ⟨w_206, fun _ => wy_206⟩
theorem wz_208 : ∀ a, a < 208 → (∀ ip, ip < m_cnt a → wfE a ip = true) ∧ (a ≠ 0 → wfY a = true) := lt_s wz_207 ⟨w_207, fun _ => wy_207⟩
theorem wz_209 : ∀ a, a < 209 → (∀ ip, ip < m_cnt a → wfE a ip = true) ∧ (a ≠ 0 → wfY a = true) := lt_s wz_208 ⟨w_208, fun _ => wy_208⟩
theorem wz_210 : ∀ a, a < 210 → (∀ ip, ip < m_cnt a → wfE a ip = true) ∧ (a ≠ 0 → wfY a = true) := lt_s wz_209 ⟨w_209, fun _ => wy_209⟩
theorem wz_211 : ∀ a, a < 211 → (∀ ip, ip < m_cnt a → wfE a ip = true) ∧ (a ≠ 0 → wfY a = true) := lt_s wz_210 ⟨w_210, fun _ => wy_210⟩
