theorem w_180 : ∀ ip, ip < m_cnt 180 → wfE 180 ip = true := fun ip h => List.all_eq_true.mp (show (List.range (m_cnt 180)).all (wfE 180) = true by decide +kernel) ip (List.mem_range.mpr h)
theorem wy_180 : wfY 180 = true := by decide +kernel
theorem w_181 : ∀ ip, ip < m_cnt 181 → wfE 181 ip = true := fun ip h => List.all_eq_true.mp (show (List.range (m_cnt 181)).all (wfE 181) = true by decide +kernel) ip (List.mem_range.mpr h)
theorem wy_181 : wfY 181 = true := by decide +kernel
theorem w_182 : ∀ ip, ip < m_cnt 182 → wfE 182 ip = true := fun ip h => List.all_eq_true.mp (show (List.range (m_cnt 182)).all (wfE 182) = true by decide +kernel) ip (List.mem_range.mpr h)
theorem wy_182 : wfY 182 = true := by decide +kernel
theorem w_183 : ∀ ip, ip < m_cnt 183 → wfE 183 ip = true := fun ip h => List.all_eq_true.mp (show (List.range (m_cnt 183)).all (wfE 183) = true by decide +kernel) ip (List.mem_range.mpr h)
theorem wy_183 : wfY 183 = true := by decide +kernel
theorem w_184 : ∀ ip, ip < m_cnt 184 → wfE 184 ip = true := fun ip h => List.all_eq_true.mp (show (List.range (m_cnt 184)).all (wfE 184) = true by decide +kernel) ip (List.mem_range.mpr h)
theorem wy_184 : wfY 184 = true := by decide +kernel
theorem w_185 : ∀ ip, ip < m_cnt 185 → wfE 185 ip = true := fun ip h => List.all_eq_true.mp (show (List.range (m_cnt 185)).all (wfE 185) = true by decide +kernel) ip (List.mem_range.mpr h)
theorem wy_185 : wfY 185 = true := by decide +kernel
theorem w_186 : ∀ ip, ip < m_cnt 186 → wfE 186 ip = true := fun ip h => List.all_eq_true.mp (show (List.range (m_cnt 186)).all (wfE 186) = true by decide +kernel) ip (List.mem_range.mpr h)
theorem wy_186 : wfY 186 = true := by decide +kernel
theorem w_187 : ∀ ip, ip < m_cnt 187 → wfE 187 ip = true := fun ip h => List.all_eq_true.mp (show (List.range (m_cnt 187)).all (wfE 187) = true by decide +kernel) ip (List.mem_range.mpr h)
theorem wy_187 : wfY 187 = true := by decide +kernel
theorem w_188 : ∀ ip, ip < m_cnt 188 → wfE 188 ip = true := fun ip h => List.all_eq_true.mp (show (List.range (m_cnt 188)).all (wfE 188) = true by decide +kernel) ip (List.mem_range.mpr h)
theorem wy_188 : wfY 188 = true := by decide +kernel
theorem w_189 : ∀ ip, ip < m_cnt 189 → wfE 189 ip = true := fun ip h => List.all_eq_true.mp (show (List.range (m_cnt 189)).all (wfE 189) = true by decide +kernel) ip (List.mem_range.mpr h)
theorem wy_189 : wfY 189 = true := by decide +kernel
theorem w_190 : ∀ ip, ip < m_cnt 190 → wfE 190 ip = true := fun ip h => List.all_eq_true.mp (show (List.range (m_cnt 190)).all (wfE 190) = true by decide +kernel) ip (List.mem_range.mpr h)
theorem wy_190 : wfY 190 = true := by decide +kernel
theorem w_191 : ∀ ip, ip < m_cnt 191 → wfE 191 ip = true := fun ip h => List.all_eq_true.mp (show (List.range (m_cnt 191)).all (wfE 191) = true by decide +kernel) ip (List.mem_range.mpr h)
theorem wy_191 : wfY 191 = true := by decide +kernel
theorem w_192 : ∀ ip, ip < m_cnt 192 → wfE 192 ip = true := fun ip h => List.all_eq_true.mp (show (List.range (m_cnt 192)).all (wfE 192) = true by decide +kernel) ip (List.mem_range.mpr h)
theorem wy_192 : wfY 192 = true := by decide +kernel
theorem w_193 : ∀ ip, ip < m_cnt 193 → wfE 193 ip = true := fun ip h => List.all_eq_true.mp (show (List.range (m_cnt 193)).all (wfE 193) = true by decide +kernel) ip (List.mem_range.mpr h)
theorem wy_193 : wfY 193 = true := by decide +kernel
theorem w_194 : ∀ ip, ip < m_cnt 194 → wfE 194 ip = true := fun ip h => List.all_eq_true.mp (show (List.range (m_cnt 194)).all (wfE 194) = true by decide +kernel) ip (List.mem_range.mpr h)
theorem wy_194 : wfY 194 = true := by decide +kernel
theorem w_195 : ∀ ip, ip < m_cnt 195 → wfE 195 ip = true := fun ip h => List.all_eq_true.mp (show (List.range (m_cnt 195)).all (wfE 195) = true by decide +kernel) ip (List.mem_range.mpr h)
theorem wy_195 : wfY 195 = true := by decide +kernel
theorem w_196 : ∀ ip, ip < m_cnt 196 → wfE 196 ip = true := fun ip h => List.all_eq_true.mp (show (List.range (m_cnt 196)).all (wfE 196) = true by decide +kernel) ip (List.mem_range.mpr h)
theorem wy_196 : wfY 196 = true := by decide +kernel
theorem w_197 : ∀ ip, ip < m_cnt 197 → wfE 197 ip = true := fun ip h => List.all_eq_true.mp (show (List.range (m_cnt 197)).all (wfE 197) = true by decide +kernel) ip (List.mem_range.mpr h)
theorem wy_197 : wfY 197 = true := by decide +kernel
theorem w_198 : ∀ ip, ip < m_cnt 198 → wfE 198 ip = true := fun ip h => List.all_eq_true.mp (show (List.range (m_cnt 198)).all (wfE 198) = true by decide +kernel) ip (List.mem_range.mpr h)
theorem wy_198 : wfY 198 = true := by decide +kernel
theorem w_199 : ∀ ip, ip < m_cnt 199 → wfE 199 ip = true := fun ip h => List.all_eq_true.mp (show (List.range (m_cnt 199)).all (wfE 199) = true by decide +kernel) ip (List.mem_range.mpr h)
theorem wy_199 : wfY 199 = true := by decide +kernel
theorem w_200 : ∀ ip, ip < m_cnt 200 → wfE 200 ip = true := fun ip h => List.all_eq_true.mp (show (List.range (m_cnt 200)).all (wfE 200) = true by decide +kernel) ip (List.mem_range.mpr h)
theorem wy_200 : wfY 200 = true := by decide +kernel
theorem w_201 : ∀ ip, ip < m_cnt 201 → wfE 201 ip = true := fun ip h => List.all_eq_true.mp (show (List.range (m_cnt 201)).all (wfE 201) = true by decide +kernel) ip (List.mem_range.mpr h)
theorem wy_201 : wfY 201 = true := by decide +kernel
theorem w_202 : ∀ ip, ip < m_cnt 202 → wfE 202 ip = true := fun ip h => List.all_eq_true.mp (show (List.range (m_cnt 202)).all (wfE 202) = true by decide +kernel) ip (List.mem_range.mpr h)
theorem wy_202 : wfY 202 = true := by decide +kernel
theorem w_203 : ∀ ip, ip < m_cnt 203 → wfE 203 ip = true := fun ip h => List.all_eq_true.mp (show (List.range (m_cnt 203)).all (wfE 203) = true by decide +kernel) ip (List.mem_range.mpr h)
theorem wy_203 : wfY 203 = true := by decide +kernel
theorem w_204 : ∀ ip, ip < m_cnt 204 → wfE 204 ip = true := fun ip h => List.all_eq_true.mp (show (List.range (m_cnt 204)).all (wfE 204) = true by decide +kernel) ip (List.mem_range.mpr h)
theorem wy_204 : wfY 204 = true := by decide +kernel
theorem w_205 : ∀ ip, ip < m_cnt 205 → wfE 205 ip = true := fun ip h => List.all_eq_true.mp (show (List.range (m_cnt 205)).all (wfE 205) = true by decide +kernel) ip (List.mem_range.mpr h)
theorem wy_205 : wfY 205 = true := by decide +kernel
theorem w_206 : ∀ ip, ip < m_cnt 206 → wfE 206 ip = true := fun ip h => List.all_eq_true.mp (show (List.range (m_cnt 206)).all (wfE 206) = true by decide +kernel) ip (List.mem_range.mpr h)
theorem wy_206 : wfY 206 = true := by decide +kernel
theorem w_207 : ∀ ip, ip < m_cnt 207 → wfE 207 ip = true := fun ip h => List.all_eq_true.mp (show (List.range (m_cnt 207)).all (wfE 207) = true by decide +kernel) ip (List.mem_range.mpr h)
theorem wy_207 : wfY 207 = true := by decide +kernel
theorem w_208 : ∀ ip, ip < m_cnt 208 → wfE 208 ip = true := fun ip h => List.all_eq_true.mp (show (List.range (m_cnt 208)).all (wfE 208) = true by decide +kernel) ip (List.mem_range.mpr h)
theorem wy_208 : wfY 208 = true := by decide +kernel
theorem w_209 : ∀ ip, ip < m_cnt 209 → wfE 209 ip = true := fun ip h => List.all_eq_true.mp (show (List.range (m_cnt 209)).all (wfE 209) = true by decide +kernel) ip (List.mem_range.mpr h)
theorem wy_209 : wfY 209 = true := by decide +kernel
theorem w_210 : ∀ ip, ip < m_cnt 210 → wfE 210 ip = true := fun ip h => List.all_eq_true.mp (show (List.range (m_cnt 210)).all (wfE 210) = true by decide +kernel) ip (List.mem_range.mpr h)
theorem wy_210 : wfY 210 = true := by decide +kernel
theorem w_211 : ∀ ip, ip < m_cnt 211 → wfE 211 ip = true := fun ip h => List.all_eq_true.mp (show (List.range (m_cnt 211)).all (wfE 211) = true by decide +kernel) ip (List.mem_range.mpr h)
theorem wy_211 : wfY 211 = true := by decide +kernel
theorem w_212 : ∀ ip, ip < m_cnt 212 → wfE 212 ip = true := fun ip h => List.all_eq_true.mp (show (List.range (m_cnt 212)).all (wfE 212) = true by decide +kernel) ip (List.mem_range.mpr h)
theorem wy_212 : wfY 212 = true := by decide +kernel
theorem w_213 : ∀ ip, ip < m_cnt 213 → wfE 213 ip = true := fun ip h => List.all_eq_true.mp (show (List.range (m_cnt 213)).all (wfE 213) = true by decide +kernel) ip (List.mem_range.mpr h)
theorem wy_213 : wfY 213 = true := by decide +kernel
theorem w_214 : ∀ ip, ip < m_cnt 214 → wfE 214 ip = true := fun ip h => List.all_eq_true.mp (show (List.range (m_cnt 214)).all (wfE 214) = true by decide +kernel) ip (List.mem_range.mpr h)
theorem wy_214 : wfY 214 = true := by decide +kernel
theorem w_215 : ∀ ip, ip < m_cnt 215 → wfE 215 ip = true := fun ip h => List.all_eq_true.mp (show (List.range (m_cnt 215)).all (wfE 215) = true by decide +kernel) ip (List.mem_range.mpr h)
theorem wy_215 : wfY 215 = true := by decide +kernel
theorem w_216 : ∀ ip, ip < m_cnt 216 → wfE 216 ip = true := fun ip h => List.all_eq_true.mp (show (List.range (m_cnt 216)).all (wfE 216) = true by decide +kernel) ip (List.mem_range.mpr h)
theorem wy_216 : wfY 216 = true := by decide +kernel
theorem w_217 : ∀ ip, ip < m_cnt 217 → wfE 217 ip = true := fun ip h => List.all_eq_true.mp (show (List.range (m_cnt 217)).all (wfE 217) = true by decide +kernel) ip (List.mem_range.mpr h)
theorem wy_217 : wfY 217 = true := by decide +kernel
theorem w_218 : ∀ ip, ip < m_cnt 218 → wfE 218 ip = true := fun ip h => List.all_eq_true.mp (show (List.range (m_cnt 218)).all (wfE 218) = true by decide +kernel) ip (List.mem_range.mpr h)
theorem wy_218 : wfY 218 = true := by decide +kernel
theorem w_219 : ∀ ip, ip < m_cnt 219 → wfE 219 ip = true := fun ip h => List.all_eq_true.mp (show (List.range (m_cnt 219)).all (wfE 219) = true by decide +kernel) ip (List.mem_range.mpr h)
theorem wy_219 : wfY 219 = true := by decide +kernel
theorem w_220 : ∀ ip, ip < m_cnt 220 → wfE 220 ip = true := fun ip h => List.all_eq_true.mp (show (List.range (m_cnt 220)).all (wfE 220) = true by decide +kernel) ip (List.mem_range.mpr h)
theorem wy_220 : wfY 220 = true := by decide +kernel
theorem w_221 : ∀ ip, ip < m_cnt 221 → wfE 221 ip = true := fun ip h => List.all_eq_true.mp (show (List.range (m_cnt 221)).all (wfE 221) = true by decide +kernel) ip (List.mem_range.mpr h)
theorem wy_221 : wfY 221 = true := by decide +kernel
theorem w_222 : ∀ ip, ip < m_cnt 222 → wfE 222 ip = true := fun ip h => List.all_eq_true.mp (show (List.range (m_cnt 222)).all (wfE 222) = true by decide +kernel) ip (List.mem_range.mpr h)
theorem wy_222 : wfY 222 = true := by decide +kernel
theorem w_223 : ∀ ip, ip < m_cnt 223 → wfE 223 ip = true := fun ip h => List.all_eq_true.mp (show (List.range (m_cnt 223)).all (wfE 223) = true by decide +kernel) ip (List.mem_range.mpr h)
theorem wy_223 : wfY 223 = true := by decide +kernel
theorem w_224 : ∀ ip, ip < m_cnt 224 → wfE 224 ip = true := fun ip h => List.all_eq_true.mp (show (List.range (m_cnt 224)).all (wfE 224) = true by decide +kernel) ip (List.mem_range.mpr h)
theorem wy_224 : wfY 224 = true := by decide +kernel
theorem w_225 : ∀ ip, ip < m_cnt 225 → wfE 225 ip = true := fun ip h => List.all_eq_true.mp (show (List.range (m_cnt 225)).all (wfE 225) = true by decide +kernel) ip (List.mem_range.mpr h)
theorem wy_225 : wfY 225 = true := by decide +kernel
theorem w_226 : ∀ ip, ip < m_cnt 226 → wfE 226 ip = true := fun ip h => List.all_eq_true.mp (show (List.range (m_cnt 226)).all (wfE 226) = true by decide +kernel) ip (List.mem_range.mpr h)
theorem wy_226 : wfY 226 = true := by decide +kernel
theorem w_227 : ∀ ip, ip < m_cnt 227 → wfE 227 ip = true := fun ip h => List.all_eq_true.mp (show (List.range (m_cnt 227)).all (wfE 227) = true by decide +kernel) ip (List.mem_range.mpr h)
theorem wy_227 : wfY 227 = true := by decide +kernel
theorem w_228 : ∀ ip, ip < m_cnt 228 → wfE 228 ip = true := fun ip h => List.all_eq_true.mp (show (List.range (m_cnt 228)).all (wfE 228) = true by decide +kernel) ip (List.mem_range.mpr h)
theorem wy_228 : wfY 228 = true := by decide +kernel
theorem w_229 : ∀ ip, ip < m_cnt 229 → wfE 229 ip = true := fun ip h => List.all_eq_true.mp (show (List.range (m_cnt 229)).all (wfE 229) = true by decide +kernel) ip (List.mem_range.mpr h)
theorem wy_229 : wfY 229 = true := by decide +kernel
theorem w_230 : ∀ ip, ip < m_cnt 230 → wfE 230 ip = true := fun ip h => List.all_eq_true.mp (show (List.range (m_cnt 230)).all (wfE 230) = true by decide +kernel) ip (List.mem_range.mpr h)
theorem wy_230 : wfY 230 = true := by decide +kernel
theorem w_231 : ∀ ip, ip < m_cnt 231 → wfE 231 ip = true := fun ip h => List.all_eq_true.mp (show (List.range (m_cnt 231)).all (wfE 231) = true by decide +kernel) ip (List.mem_range.mpr h)
theorem wy_231 : wfY 231 = true := by decide +kernel
theorem w_232 : ∀ ip, ip < m_cnt 232 → wfE 232 ip = true := fun ip h => List.all_eq_true.mp (show (List.range (m_cnt 232)).all (wfE 232) = true by decide +kernel) ip (List.mem_range.mpr h)
theorem wy_232 : wfY 232 = true := by decide +kernel
theorem w_233 : ∀ ip, ip < m_cnt 233 → wfE 233 ip = true := fun ip h => List.all_eq_true.mp (show (List.range (m_cnt 233)).all (wfE 233) = true by decide +kernel) ip (List.mem_range.mpr h)
theorem wy_233 : wfY 233 = true := by decide +kernel
theorem w_234 : ∀ ip, ip < m_cnt 234 → wfE 234 ip = true := fun ip h => List.all_eq_true.mp (show (List.range (m_cnt 234)).all (wfE 234) = true by decide +kernel) ip (List.mem_range.mpr h)
theorem wy_234 : wfY 234 = true := by decide +kernel
theorem w_235 : ∀ ip, ip < m_cnt 235 → wfE 235 ip = true := fun ip h => List.all_eq_true.mp (show (List.range (m_cnt 235)).all (wfE 235) = true by decide +kernel) ip (List.mem_range.mpr h)
theorem wy_235 : wfY 235 = true := by decide +kernel
theorem w_236 : ∀ ip, ip < m_cnt 236 → wfE 236 ip = true := fun ip h => List.all_eq_true.mp (show (List.range (m_cnt 236)).all (wfE 236) = true by decide +kernel) ip (List.mem_range.mpr h)
theorem wy_236 : wfY 236 = true := by decide +kernel
theorem w_237 : ∀ ip, ip < m_cnt 237 → wfE 237 ip = true := fun ip h => List.all_eq_true.mp (show (List.range (m_cnt 237)).all (wfE 237) = true by decide +kernel) ip (List.mem_range.mpr h)
theorem wy_237 : wfY 237 = true := by decide +kernel
theorem w_238 : ∀ ip, ip < m_cnt 238 → wfE 238 ip = true := fun ip h => List.all_eq_true.mp (show (List.range (m_cnt 238)).all (wfE 238) = true by decide +kernel) ip (List.mem_range.mpr h)
theorem wy_238 : wfY 238 = true := by decide +kernel
theorem w_239 : ∀ ip, ip < m_cnt 239 → wfE 239 ip = true := fun ip h => List.all_eq_true.mp (show (List.range (m_cnt 239)).all (wfE 239) = true by decide +kernel) ip (List.mem_range.mpr h)
theorem wy_239 : wfY 239 = true := by decide +kernel
theorem wz_181 : ∀ a, a < 181 → (∀ ip, ip < m_cnt a → wfE a ip = true) ∧ (a ≠ 0 → wfY a = true) := lt_s wz_180 ⟨w_180, fun _ => wy_180⟩
theorem wz_182 : ∀ a, a < 182 → (∀ ip, ip < m_cnt a → wfE a ip = true) ∧ (a ≠ 0 → wfY a = true) := lt_s wz_181 ⟨w_181, fun _ => wy_181⟩
theorem wz_183 : ∀ a, a < 183 → (∀ ip, ip < m_cnt a → wfE a ip = true) ∧ (a ≠ 0 → wfY a = true) := lt_s wz_182 ⟨w_182, fun _ => wy_182⟩
theorem wz_184 : ∀ a, a < 184 → (∀ ip, ip < m_cnt a → wfE a ip = true) ∧ (a ≠ 0 → wfY a = true) := lt_s wz_183 ⟨w_183, fun _ => wy_183⟩
theorem wz_185 : ∀ a, a < 185 → (∀ ip, ip < m_cnt a → wfE a ip = true) ∧ (a ≠ 0 → wfY a = true) := lt_s wz_184 ⟨w_184, fun _ => wy_184⟩
theorem wz_186 : ∀ a, a < 186 → (∀ ip, ip < m_cnt a → wfE a ip = true) ∧ (a ≠ 0 → wfY a = true) := lt_s wz_185 ⟨w_185, fun _ => wy_185⟩
theorem wz_187 : ∀ a, a < 187 → (∀ ip, ip < m_cnt a → wfE a ip = true) ∧ (a ≠ 0 → wfY a = true) := lt_s wz_186 ⟨w_186, fun _ => wy_186⟩
theorem wz_188 : ∀ a, a < 188 → (∀ ip, ip < m_cnt a → wfE a ip = true) ∧ (a ≠ 0 → wfY a = true) := lt_s wz_187 ⟨w_187, fun _ => wy_187⟩
theorem wz_189 : ∀ a, a < 189 → (∀ ip, ip < m_cnt a → wfE a ip = true) ∧ (a ≠ 0 → wfY a = true) := lt_s wz_188 ⟨w_188, fun _ => wy_188⟩
theorem wz_190 : ∀ a, a < 190 → (∀ ip, ip < m_cnt a → wfE a ip = true) ∧ (a ≠ 0 → wfY a = true) := lt_s wz_189 ⟨w_189, fun _ => wy_189⟩
theorem wz_191 : ∀ a, a < 191 → (∀ ip, ip < m_cnt a → wfE a ip = true) ∧ (a ≠ 0 → wfY a = true) := lt_s wz_190 ⟨w_190, fun _ => wy_190⟩
theorem wz_192 : ∀ a, a < 192 → (∀ ip, ip < m_cnt a → wfE a ip = true) ∧ (a ≠ 0 → wfY a = true) := lt_s wz_191 ⟨w_191, fun _ => wy_191⟩
theorem wz_193 : ∀ a, a < 193 → (∀ ip, ip < m_cnt a → wfE a ip = true) ∧ (a ≠ 0 → wfY a = true) := lt_s wz_192 ⟨w_192, fun _ => wy_192⟩
theorem wz_194 : ∀ a, a < 194 → (∀ ip, ip < m_cnt a → wfE a ip = true) ∧ (a ≠ 0 → wfY a = true) := lt_s wz_193 ⟨w_193, fun _ => wy_193⟩
theorem wz_195 : ∀ a, a < 195 → (∀ ip, ip < m_cnt a → wfE a ip = true) ∧ (a ≠ 0 → wfY a = true) := lt_s wz_194 ⟨w_194, fun _ => wy_194⟩
theorem wz_196 : ∀ a, a < 196 → (∀ ip, ip < m_cnt a → wfE a ip = true) ∧ (a ≠ 0 → wfY a = true) := lt_s wz_195 ⟨w_195, fun _ => wy_195⟩
theorem wz_197 : ∀ a, a < 197 → (∀ ip, ip < m_cnt a → wfE a ip = true) ∧ (a ≠ 0 → wfY a = true) := lt_s wz_196 ⟨w_196, fun _ => wy_196⟩
theorem wz_198 : ∀ a, a < 198 → (∀ ip, ip < m_cnt a → wfE a ip = true) ∧ (a ≠ 0 → wfY a = true) := lt_s wz_197 ⟨w_197, fun _ => wy_197⟩
theorem wz_199 : ∀ a, a < 199 → (∀ ip, ip < m_cnt a → wfE a ip = true) ∧ (a ≠ 0 → wfY a = true) := lt_s wz_198 ⟨w_198, fun _ => wy_198⟩
theorem wz_200 : ∀ a, a < 200 → (∀ ip, ip < m_cnt a → wfE a ip = true) ∧ (a ≠ 0 → wfY a = true) := lt_s wz_199 ⟨w_199, fun _ => wy_199⟩
theorem wz_201 : ∀ a, a < 201 → (∀ ip, ip < m_cnt a → wfE a ip = true) ∧ (a ≠ 0 → wfY a = true) := lt_s wz_200 ⟨w_200, fun _ => wy_200⟩
theorem wz_202 : ∀ a, a < 202 → (∀ ip, ip < m_cnt a → wfE a ip = true) ∧ (a ≠ 0 → wfY a = true) := lt_s wz_201 ⟨w_201, fun _ => wy_201⟩
theorem wz_203 : ∀ a, a < 203 → (∀ ip, ip < m_cnt a → wfE a ip = true) ∧ (a ≠ 0 → wfY a = true) := lt_s wz_202 ⟨w_202, fun _ => wy_202⟩
theorem wz_204 : ∀ a, a < 204 → (∀ ip, ip < m_cnt a → wfE a ip = true) ∧ (a ≠ 0 → wfY a = true) := lt_s wz_203 ⟨w_203, fun _ => wy_203⟩
theorem wz_205 : ∀ a, a < 205 → (∀ ip, ip < m_cnt a → wfE a ip = true) ∧ (a ≠ 0 → wfY a = true) := lt_s wz_204 ⟨w_204, fun _ => wy_204⟩
theorem wz_206 : ∀ a, a < 206 → (∀ ip, ip < m_cnt a → wfE a ip = true) ∧ (a ≠ 0 → wfY a = true) := lt_s wz_205 ⟨w_205, fun _ => wy_205⟩
theorem wz_207 : ∀ a, a < 207 → (∀ ip, ip < m_cnt a → wfE a ip = true) ∧ (a ≠ 0 → wfY a = true) := lt_s wz_206 ⟨w_206, fun _ => wy_206⟩
theorem wz_208 : ∀ a, a < 208 → (∀ ip, ip < m_cnt a → wfE a ip = true) ∧ (a ≠ 0 → wfY a = true) := lt_s wz_207 ⟨w_207, fun _ => wy_207⟩
theorem wz_209 : ∀ a, a < 209 → (∀ ip, ip < m_cnt a → wfE a ip = true) ∧ (a ≠ 0 → wfY a = true) := lt_s wz_208 ⟨w_208, fun _ => wy_208⟩
theorem wz_210 : ∀ a, a < 210 → (∀ ip, ip < m_cnt a → wfE a ip = true) ∧ (a ≠ 0 → wfY a = true) := lt_s wz_209 ⟨w_209, fun _ => wy_209⟩
theorem wz_211 : ∀ a, a < 211 → (∀ ip, ip < m_cnt a → wfE a ip = true) ∧ (a ≠ 0 → wfY a = true) := lt_s wz_210 ⟨w_210, fun _ => wy_210⟩
theorem wz_212 : ∀ a, a < 212 → (∀ ip, ip < m_cnt a → wfE a ip = true) ∧ (a ≠ 0 → wfY a = true) := lt_s wz_211 ⟨w_211, fun _ => wy_211⟩
theorem wz_213 : ∀ a, a < 213 → (∀ ip, ip < m_cnt a → wfE a ip = true) ∧ (a ≠ 0 → wfY a = true) := lt_s wz_212 ⟨w_212, fun _ => wy_212⟩
theorem wz_214 : ∀ a, a < 214 → (∀ ip, ip < m_cnt a → wfE a ip = true) ∧ (a ≠ 0 → wfY a = true) := lt_s wz_213 ⟨w_213, fun _ => wy_213⟩
theorem wz_215 : ∀ a, a < 215 → (∀ ip, ip < m_cnt a → wfE a ip = true) ∧ (a ≠ 0 → wfY a = true) := lt_s wz_214 ⟨w_214, fun _ => wy_214⟩
theorem wz_216 : ∀ a, a < 216 → (∀ ip, ip < m_cnt a → wfE a ip = true) ∧ (a ≠ 0 → wfY a = true) := lt_s wz_215 ⟨w_215, fun _ => wy_215⟩
theorem wz_217 : ∀ a, a < 217 → (∀ ip, ip < m_cnt a → wfE a ip = true) ∧ (a ≠ 0 → wfY a = true) := lt_s wz_216 ⟨w_216, fun _ => wy_216⟩
theorem wz_218 : ∀ a, a < 218 → (∀ ip, ip < m_cnt a → wfE a ip = true) ∧ (a ≠ 0 → wfY a = true) := lt_s wz_217 ⟨w_217, fun _ => wy_217⟩
theorem wz_219 : ∀ a, a < 219 → (∀ ip, ip < m_cnt a → wfE a ip = true) ∧ (a ≠ 0 → wfY a = true) := lt_s wz_218 ⟨w_218, fun _ => wy_218⟩
theorem wz_220 : ∀ a, a < 220 → (∀ ip, ip < m_cnt a → wfE a ip = true) ∧ (a ≠ 0 → wfY a = true) := lt_s wz_219 ⟨w_219, fun _ => wy_219⟩
theorem wz_221 : ∀ a, a < 221 → (∀ ip, ip < m_cnt a → wfE a ip = true) ∧ (a ≠ 0 → wfY a = true) := lt_s wz_220 ⟨w_220, fun _ => wy_220⟩
theorem wz_222 : ∀ a, a < 222 → (∀ ip, ip < m_cnt a → wfE a ip = true) ∧ (a ≠ 0 → wfY a = true) := lt_s wz_221 ⟨w_221, fun _ => wy_221⟩
theorem wz_223 : ∀ a, a < 223 → (∀ ip, ip < m_cnt a → wfE a ip = true) ∧ (a ≠ 0 → wfY a = true) := lt_s wz_222 ⟨w_222, fun _ => wy_222⟩
theorem wz_224 : ∀ a, a < 224 → (∀ ip, ip < m_cnt a → wfE a ip = true) ∧ (a ≠ 0 → wfY a = true) := lt_s wz_223 ⟨w_223, fun _ => wy_223⟩
theorem wz_225 : ∀ a, a < 225 → (∀ ip, ip < m_cnt a → wfE a ip = true) ∧ (a ≠ 0 → wfY a = true) := lt_s wz_224 ⟨w_224, fun _ => wy_224⟩
theorem wz_226 : ∀ a, a < 226 → (∀ ip, ip < m_cnt a → wfE a ip = true) ∧ (a ≠ 0 → wfY a = true) := lt_s wz_225 ⟨w_225, fun _ => wy_225⟩
theorem wz_227 : ∀ a, a < 227 → (∀ ip, ip < m_cnt a → wfE a ip = true) ∧ (a ≠ 0 → wfY a = true) := lt_s wz_226 ⟨w_226, fun _ => wy_226⟩
theorem wz_228 : ∀ a, a < 228 → (∀ ip, ip < m_cnt a → wfE a ip = true) ∧ (a ≠ 0 → wfY a = true) := lt_s wz_227 ⟨w_227, fun _ => wy_227⟩
theorem wz_229 : ∀ a, a < 229 → (∀ ip, ip < m_cnt a → wfE a ip = true) ∧ (a ≠ 0 → wfY a = true) := lt_s wz_228 ⟨w_228, fun _ => wy_228⟩
theorem wz_230 : ∀ a, a < 230 → (∀ ip, ip < m_cnt a → wfE a ip = true) ∧ (a ≠ 0 → wfY a = true) := lt_s wz_229 ⟨w_229, fun _ => wy_229⟩
theorem wz_231 : ∀ a, a < 231 → (∀ ip, ip < m_cnt a → wfE a ip = true) ∧ (a ≠ 0 → wfY a = true) := lt_s wz_230 ⟨w_230, fun _ => wy_230⟩
theorem wz_232 : ∀ a, a < 232 → (∀ ip, ip < m_cnt a → wfE a ip = true) ∧ (a ≠ 0 → wfY a = true) := lt_s wz_231 ⟨w_231, fun _ => wy_231⟩
theorem wz_233 : ∀ a, a < 233 → (∀ ip, ip < m_cnt a → wfE a ip = true) ∧ (a ≠ 0 → wfY a = true) := lt_s wz_232 ⟨w_232, fun _ => wy_232⟩
theorem wz_234 : ∀ a, a < 234 → (∀ ip, ip < m_cnt a → wfE a ip = true) ∧ (a ≠ 0 → wfY a = true) := lt_s wz_233 ⟨w_233, fun _ => wy_233⟩
theorem wz_235 : ∀ a, a < 235 → (∀ ip, ip < m_cnt a → wfE a ip = true) ∧ (a ≠ 0 → wfY a = true) := lt_s wz_234 ⟨w_234, fun _ => wy_234⟩
theorem wz_236 : ∀ a, a < 236 → (∀ ip, ip < m_cnt a → wfE a ip = true) ∧ (a ≠ 0 → wfY a = true) := lt_s wz_235 ⟨w_235, fun _ => wy_235⟩
theorem wz_237 : ∀ a, a < 237 → (∀ ip, ip < m_cnt a → wfE a ip = true) ∧ (a ≠ 0 → wfY a = true) := lt_s wz_236 ⟨w_236, fun _ => wy_236⟩
theorem wz_238 : ∀ a, a < 238 → (∀ ip, ip < m_cnt a → wfE a ip = true) ∧ (a ≠ 0 → wfY a = true) := lt_s wz_237 ⟨w_237, fun _ => wy_237⟩
theorem wz_239 : ∀ a, a < 239 → (∀ ip, ip < m_cnt a → wfE a ip = true) ∧ (a ≠ 0 → wfY a = true) := lt_s wz_238 ⟨w_238, fun _ => wy_238⟩
theorem wz_240 : ∀ a, a < 240 → (∀ ip, ip < m_cnt a → wfE a ip = true) ∧ (a ≠ 0 → wfY a = true) := lt_s wz_239 ⟨w_239, fun _ => wy_239⟩
