theorem w_211 : ∀ ip, ip < m_cnt 211 → wfE 211 ip = true := fun ip h => List.all_eq_true.mp (show (List.range (m_cnt 211)).all (wfE 211) = true by decide +kernel) ip (List.mem_range.mpr h)
theorem wy_211 : wfY 211 = true := by decide +kernel
theorem w_212 : ∀ ip, ip < m_cnt 212 → wfE 212 ip = true := fun ip h => List.all_eq_true.mp (show (List.range (m_cnt 212)).all (wfE 212) = true by decide +kernel) ip (List.mem_range.mpr h)
theorem wy_212 : wfY 212 = true := by decide +kernel
theorem w_213 : ∀ ip, ip < m_cnt 213 → wfE 213 ip = true := fun ip h => List.all_eq_true.mp (show (List.range (m_cnt 213)).all (wfE 213) = true by decide +kernel) ip (List.mem_range.mpr h)
theorem wy_213 : wfY 213 = true := by decide +kernel
theorem w_214 : ∀ ip, ip < m_cnt 214 → wfE 214 ip = true := fun ip h => List.all_eq_true.mp (show (List.range (m_cnt 214)).all (wfE 214) = true by decide +kernel) ip (List.mem_range.mpr h)
theorem wy_214 : wfY 214 = true := by decide +kernel
theorem w_215 : ∀ ip, ip < m_cnt 215 → wfE 215 ip = true := fun ip h => List.all_eq_true.mp (show (List.range (m_cnt 215)).all (wfE 215) = true by decide +kernel) ip (List.mem_range.mpr h)
theorem wy_215 : wfY 215 = true := by decide +kernel
theorem w_216 : ∀ ip, ip < m_cnt 216 → wfE 216 ip = true := fun ip h => List.all_eq_true.mp (show (List.range (m_cnt 216)).all (wfE 216) = true by decide +kernel) ip (List.mem_range.mpr h)
theorem wy_216 : wfY 216 = true := by decide +kernel
theorem w_217 : ∀ ip, ip < m_cnt 217 → wfE 217 ip = true := fun ip h => List.all_eq_true.mp (show (List.range (m_cnt 217)).all (wfE 217) = true by decide +kernel) ip (List.mem_range.mpr h)
theorem wy_217 : wfY 217 = true := by decide +kernel
theorem w_218 : ∀ ip, ip < m_cnt 218 → wfE 218 ip = true := fun ip h => List.all_eq_true.mp (show (List.range (m_cnt 218)).all (wfE 218) = true by decide +kernel) ip (List.mem_range.mpr h)
theorem wy_218 : wfY 218 = true := by decide +kernel
theorem w_219 : ∀ ip, ip < m_cnt 219 → wfE 219 ip = true := fun ip h => List.all_eq_true.mp (show (List.range (m_cnt 219)).all (wfE 219) = true by decide +kernel) ip (List.mem_range.mpr h)
theorem wy_219 : wfY 219 = true := by decide +kernel
theorem w_220 : ∀ ip, ip < m_cnt 220 → wfE 220 ip = true := fun ip h => List.all_eq_true.mp (show (List.range (m_cnt 220)).all (wfE 220) = true by decide +kernel) ip (List.mem_range.mpr h)
theorem wy_220 : wfY 220 = true := by decide +kernel
theorem w_221 : ∀ ip, ip < m_cnt 221 → wfE 221 ip = true := fun ip h => List.all_eq_true.mp (show (List.range (m_cnt 221)).all (wfE 221) = true by decide +kernel) ip (List.mem_range.mpr h)
theorem wy_221 : wfY 221 = true := by decide +kernel
theorem w_222 : ∀ ip, ip < m_cnt 222 → wfE 222 ip = true := fun ip h => List.all_eq_true.mp (show (List.range (m_cnt 222)).all (wfE 222) = true by decide +kernel) ip (List.mem_range.mpr h)
theorem wy_222 : wfY 222 = true := by decide +kernel
theorem w_223 : ∀ ip, ip < m_cnt 223 → wfE 223 ip = true := fun ip h => List.all_eq_true.mp (show (List.range (m_cnt 223)).all (wfE 223) = true by decide +kernel) ip (List.mem_range.mpr h)
theorem wy_223 : wfY 223 = true := by decide +kernel
theorem w_224 : ∀ ip, ip < m_cnt 224 → wfE 224 ip = true := fun ip h => List.all_eq_true.mp (show (List.range (m_cnt 224)).all (wfE 224) = true by decide +kernel) ip (List.mem_range.mpr h)
theorem wy_224 : wfY 224 = true := by decide +kernel
theorem w_225 : ∀ ip, ip < m_cnt 225 → wfE 225 ip = true := fun ip h => List.all_eq_true.mp (show (List.range (m_cnt 225)).all (wfE 225) = true by decide +kernel) ip (List.mem_range.mpr h)
theorem wy_225 : wfY 225 = true := by decide +kernel
theorem w_226 : ∀ ip, ip < m_cnt 226 → wfE 226 ip = true := fun ip h => List.all_eq_true.mp (show (List.range (m_cnt 226)).all (wfE 226) = true by decide +kernel) ip (List.mem_range.mpr h)
theorem wy_226 : wfY 226 = true := by decide +kernel
theorem w_227 : ∀ ip, ip < m_cnt 227 → wfE 227 ip = true := fun ip h => List.all_eq_true.mp (show (List.range (m_cnt 227)).all (wfE 227) = true by decide +kernel) ip (List.mem_range.mpr h)
theorem wy_227 : wfY 227 = true := by decide +kernel
theorem w_228 : ∀ ip, ip < m_cnt 228 → wfE 228 ip = true := fun ip h => List.all_eq_true.mp (show (List.range (m_cnt 228)).all (wfE 228) = true by decide +kernel) ip (List.mem_range.mpr h)
theorem wy_228 : wfY 228 = true := by decide +kernel
theorem w_229 : ∀ ip, ip < m_cnt 229 → wfE 229 ip = true := fun ip h => List.all_eq_true.mp (show (List.range (m_cnt 229)).all (wfE 229) = true by decide +kernel) ip (List.mem_range.mpr h)
theorem wy_229 : wfY 229 = true := by decide +kernel
theorem w_230 : ∀ ip, ip < m_cnt 230 → wfE 230 ip = true := fun ip h => List.all_eq_true.mp (show (List.range (m_cnt 230)).all (wfE 230) = true by decide +kernel) ip (List.mem_range.mpr h)
theorem wy_230 : wfY 230 = true := by decide +kernel
theorem w_231 : ∀ ip, ip < m_cnt 231 → wfE 231 ip = true := fun ip h => List.all_eq_true.mp (show (List.range (m_cnt 231)).all (wfE 231) = true by decide +kernel) ip (List.mem_range.mpr h)
theorem wy_231 : wfY 231 = true := by decide +kernel
theorem w_232 : ∀ ip, ip < m_cnt 232 → wfE 232 ip = true := fun ip h => List.all_eq_true.mp (show (List.range (m_cnt 232)).all (wfE 232) = true by decide +kernel) ip (List.mem_range.mpr h)
theorem wy_232 : wfY 232 = true := by decide +kernel
theorem w_233 : ∀ ip, ip < m_cnt 233 → wfE 233 ip = true := fun ip h => List.all_eq_true.mp (show (List.range (m_cnt 233)).all (wfE 233) = true by decide +kernel) ip (List.mem_range.mpr h)
theorem wy_233 : wfY 233 = true := by decide +kernel
theorem w_234 : ∀ ip, ip < m_cnt 234 → wfE 234 ip = true := fun ip h => List.all_eq_true.mp (show (List.range (m_cnt 234)).all (wfE 234) = true by decide +kernel) ip (List.mem_range.mpr h)
theorem wy_234 : wfY 234 = true := by decide +kernel
theorem w_235 : ∀ ip, ip < m_cnt 235 → wfE 235 ip = true := fun ip h => List.all_eq_true.mp (show (List.range (m_cnt 235)).all (wfE 235) = true by decide +kernel) ip (List.mem_range.mpr h)
theorem wy_235 : wfY 235 = true := by decide +kernel
theorem w_236 : ∀ ip, ip < m_cnt 236 → wfE 236 ip = true := fun ip h => List.all_eq_true.mp (show (List.range (m_cnt 236)).all (wfE 236) = true by decide +kernel) ip (List.mem_range.mpr h)
theorem wy_236 : wfY 236 = true := by decide +kernel
theorem w_237 : ∀ ip, ip < m_cnt 237 → wfE 237 ip = true := fun ip h => List.all_eq_true.mp (show (List.range (m_cnt 237)).all (wfE 237) = true by decide +kernel) ip (List.mem_range.mpr h)
theorem wy_237 : wfY 237 = true := by decide +kernel
theorem w_238 : ∀ ip, ip < m_cnt 238 → wfE 238 ip = true := fun ip h => List.all_eq_true.mp (show (List.range (m_cnt 238)).all (wfE 238) = true by decide +kernel) ip (List.mem_range.mpr h)
theorem wy_238 : wfY 238 = true := by decide +kernel
theorem w_239 : ∀ ip, ip < m_cnt 239 → wfE 239 ip = true := fun ip h => List.all_eq_true.mp (show (List.range (m_cnt 239)).all (wfE 239) = true by decide +kernel) ip (List.mem_range.mpr h)
theorem wy_239 : wfY 239 = true := by decide +kernel
theorem w_240 : ∀ ip, ip < m_cnt 240 → wfE 240 ip = true := fun ip h => List.all_eq_true.mp (show (List.range (m_cnt 240)).all (wfE 240) = true by decide +kernel) ip (List.mem_range.mpr h)
theorem wy_240 : wfY 240 = true := by decide +kernel
theorem w_241 : ∀ ip, ip < m_cnt 241 → wfE 241 ip = true := fun ip h => List.all_eq_true.mp (show (List.range (m_cnt 241)).all (wfE 241) = true by decide +kernel) ip (List.mem_range.mpr h)
theorem wy_241 : wfY 241 = true := by decide +kernel
theorem w_242 : ∀ ip, ip < m_cnt 242 → wfE 242 ip = true := fun ip h => List.all_eq_true.mp (show (List.range (m_cnt 242)).all (wfE 242) = true by decide +kernel) ip (List.mem_range.mpr h)
theorem wy_242 : wfY 242 = true := by decide +kernel
theorem w_243 : ∀ ip, ip < m_cnt 243 → wfE 243 ip = true := fun ip h => List.all_eq_true.mp (show (List.range (m_cnt 243)).all (wfE 243) = true by decide +kernel) ip (List.mem_range.mpr h)
theorem wy_243 : wfY 243 = true := by decide +kernel
theorem w_244 : ∀ ip, ip < m_cnt 244 → wfE 244 ip = true := fun ip h => List.all_eq_true.mp (show (List.range (m_cnt 244)).all (wfE 244) = true by decide +kernel) ip (List.mem_range.mpr h)
theorem wy_244 : wfY 244 = true := by decide +kernel
theorem w_245 : ∀ ip, ip < m_cnt 245 → wfE 245 ip = true := fun ip h => List.all_eq_true.mp (show (List.range (m_cnt 245)).all (wfE 245) = true by decide +kernel) ip (List.mem_range.mpr h)
theorem wy_245 : wfY 245 = true := by decide +kernel
theorem w_246 : ∀ ip, ip < m_cnt 246 → wfE 246 ip = true := fun ip h => List.all_eq_true.mp (show (List.range (m_cnt 246)).all (wfE 246) = true by decide +kernel) ip (List.mem_range.mpr h)
theorem wy_246 : wfY 246 = true := by decide +kernel
theorem w_247 : ∀ ip, ip < m_cnt 247 → wfE 247 ip = true := fun ip h => List.all_eq_true.mp (show (List.range (m_cnt 247)).all (wfE 247) = true by decide +kernel) ip (List.mem_range.mpr h)
theorem wy_247 : wfY 247 = true := by decide +kernel
theorem w_248 : ∀ ip, ip < m_cnt 248 → wfE 248 ip = true := fun ip h => List.all_eq_true.mp (show (List.range (m_cnt 248)).all (wfE 248) = true by decide +kernel) ip (List.mem_range.mpr h)
theorem wy_248 : wfY 248 = true := by decide +kernel
theorem w_249 : ∀ ip, ip < m_cnt 249 → wfE 249 ip = true := fun ip h => List.all_eq_true.mp (show (List.range (m_cnt 249)).all (wfE 249) = true by decide +kernel) ip (List.mem_range.mpr h)
theorem wy_249 : wfY 249 = true := by decide +kernel
theorem w_250 : ∀ ip, ip < m_cnt 250 → wfE 250 ip = true := fun ip h => List.all_eq_true.mp (show (List.range (m_cnt 250)).all (wfE 250) = true by decide +kernel) ip (List.mem_range.mpr h)
theorem wy_250 : wfY 250 = true := by decide +kernel
theorem w_251 : ∀ ip, ip < m_cnt 251 → wfE 251 ip = true := fun ip h => List.all_eq_true.mp (show (List.range (m_cnt 251)).all (wfE 251) = true by decide +kernel) ip (List.mem_range.mpr h)
theorem wy_251 : wfY 251 = true := by decide +kernel
theorem w_252 : ∀ ip, ip < m_cnt 252 → wfE 252 ip = true := fun ip h => List.all_eq_true.mp (show (List.range (m_cnt 252)).all (wfE 252) = true by decide +kernel) ip (List.mem_range.mpr h)
theorem wy_252 : wfY 252 = true := by decide +kernel
theorem wz_212 : ∀ a, a < 212 → (∀ ip, ip < m_cnt a → wfE a ip = true) ∧ (a ≠ 0 → wfY a = true) := lt_s wz_211 ⟨w_211, fun _ => wy_211⟩
theorem wz_213 : ∀ a, a < 213 → (∀ ip, ip < m_cnt a → wfE a ip = true) ∧ (a ≠ 0 → wfY a = true) := lt_s wz_212 ⟨w_212, fun _ => wy_212⟩
theorem wz_214 : ∀ a, a < 214 → (∀ ip, ip < m_cnt a → wfE a ip = true) ∧ (a ≠ 0 → wfY a = true) := lt_s wz_213 ⟨w_213, fun _ => wy_213⟩
theorem wz_215 : ∀ a, a < 215 → (∀ ip, ip < m_cnt a → wfE a ip = true) ∧ (a ≠ 0 → wfY a = true) := lt_s wz_214 ⟨w_214, fun _ => wy_214⟩
theorem wz_216 : ∀ a, a < 216 → (∀ ip, ip < m_cnt a → wfE a ip = true) ∧ (a ≠ 0 → wfY a = true) := lt_s wz_215 ⟨w_215, fun _ => wy_215⟩
theorem wz_217 : ∀ a, a < 217 → (∀ ip, ip < m_cnt a → wfE a ip = true) ∧ (a ≠ 0 → wfY a = true) := lt_s wz_216 ⟨w_216, fun _ => wy_216⟩
theorem wz_218 : ∀ a, a < 218 → (∀ ip, ip < m_cnt a → wfE a ip = true) ∧ (a ≠ 0 → wfY a = true) := lt_s wz_217 ⟨w_217, fun _ => wy_217⟩
theorem wz_219 : ∀ a, a < 219 → (∀ ip, ip < m_cnt a → wfE a ip = true) ∧ (a ≠ 0 → wfY a = true) := lt_s wz_218 ⟨w_218, fun _ => wy_218⟩
theorem wz_220 : ∀ a, a < 220 → (∀ ip, ip < m_cnt a → wfE a ip = true) ∧ (a ≠ 0 → wfY a = true) := lt_s wz_219 ⟨w_219, fun _ => wy_219⟩
theorem wz_221 : ∀ a, a < 221 → (∀ ip, ip < m_cnt a → wfE a ip = true) ∧ (a ≠ 0 → wfY a = true) := lt_s wz_220 ⟨w_220, fun _ => wy_220⟩
theorem wz_222 : ∀ a, a < 222 → (∀ ip, ip < m_cnt a → wfE a ip = true) ∧ (a ≠ 0 → wfY a = true) := lt_s wz_221 ⟨w_221, fun _ => wy_221⟩
theorem wz_223 : ∀ a, a < 223 → (∀ ip, ip < m_cnt a → wfE a ip = true) ∧ (a ≠ 0 → wfY a = true) := lt_s wz_222 ⟨w_222, fun _ => wy_222⟩
theorem wz_224 : ∀ a, a < 224 → (∀ ip, ip < m_cnt a → wfE a ip = true) ∧ (a ≠ 0 → wfY a = true) := lt_s wz_223 ⟨w_223, fun _ => wy_223⟩
theorem wz_225 : ∀ a, a < 225 → (∀ ip, ip < m_cnt a → wfE a ip = true) ∧ (a ≠ 0 → wfY a = true) := lt_s wz_224 ⟨w_224, fun _ => wy_224⟩
theorem wz_226 : ∀ a, a < 226 → (∀ ip, ip < m_cnt a → wfE a ip = true) ∧ (a ≠ 0 → wfY a = true) := lt_s wz_225 ⟨w_225, fun _ => wy_225⟩
theorem wz_227 : ∀ a, a < 227 → (∀ ip, ip < m_cnt a → wfE a ip = true) ∧ (a ≠ 0 → wfY a = true) := lt_s wz_226 ⟨w_226, fun _ => wy_226⟩
theorem wz_228 : ∀ a, a < 228 → (∀ ip, ip < m_cnt a → wfE a ip = true) ∧ (a ≠ 0 → wfY a = true) := lt_s wz_227 ⟨w_227, fun _ => wy_227⟩
theorem wz_229 : ∀ a, a < 229 → (∀ ip, ip < m_cnt a → wfE a ip = true) ∧ (a ≠ 0 → wfY a = true) := lt_s wz_228 ⟨w_228, fun _ => wy_228⟩
theorem wz_230 : ∀ a, a < 230 → (∀ ip, ip < m_cnt a → wfE a ip = true) ∧ (a ≠ 0 → wfY a = true) := lt_s wz_229 ⟨w_229, fun _ => wy_229⟩
theorem wz_231 : ∀ a, a < 231 → (∀ ip, ip < m_cnt a → wfE a ip = true) ∧ (a ≠ 0 → wfY a = true) := lt_s wz_230 ⟨w_230, fun _ => wy_230⟩
theorem wz_232 : ∀ a, a < 232 → (∀ ip, ip < m_cnt a → wfE a ip = true) ∧ (a ≠ 0 → wfY a = true) := lt_s wz_231 ⟨w_231, fun _ => wy_231⟩
theorem wz_233 : ∀ a, a < 233 → (∀ ip, ip < m_cnt a → wfE a ip = true) ∧ (a ≠ 0 → wfY a = true) := lt_s wz_232 ⟨w_232, fun _ => wy_232⟩
theorem wz_234 : ∀ a, a < 234 → (∀ ip, ip < m_cnt a → wfE a ip = true) ∧ (a ≠ 0 → wfY a = true) := lt_s wz_233 ⟨w_233, fun _ => wy_233⟩
theorem wz_235 : ∀ a, a < 235 → (∀ ip, ip < m_cnt a → wfE a ip = true) ∧ (a ≠ 0 → wfY a = true) := lt_s wz_234 ⟨w_234, fun _ => wy_234⟩
theorem wz_236 : ∀ a, a < 236 → (∀ ip, ip < m_cnt a → wfE a ip = true) ∧ (a ≠ 0 → wfY a = true) := lt_s wz_235 ⟨w_235, fun _ => wy_235⟩
theorem wz_237 : ∀ a, a < 237 → (∀ ip, ip < m_cnt a → wfE a ip = true) ∧ (a ≠ 0 → wfY a = true) := lt_s wz_236 ⟨w_236, fun _ => wy_236⟩
theorem wz_238 : ∀ a, a < 238 → (∀ ip, ip < m_cnt a → wfE a ip = true) ∧ (a ≠ 0 → wfY a = true) := lt_s wz_237 ⟨w_237, fun _ => wy_237⟩
theorem wz_239 : ∀ a, a < 239 → (∀ ip, ip < m_cnt a → wfE a ip = true) ∧ (a ≠ 0 → wfY a = true) := lt_s wz_238 ⟨w_238, fun _ => wy_238⟩
theorem wz_240 : ∀ a, a < 240 → (∀ ip, ip < m_cnt a → wfE a ip = true) ∧ (a ≠ 0 → wfY a = true) := lt_s wz_239 ⟨w_239, fun _ => wy_239⟩
theorem wz_241 : ∀ a, a < 241 → (∀ ip, ip < m_cnt a → wfE a ip = true) ∧ (a ≠ 0 → wfY a = true) := lt_s wz_240 ⟨w_240, fun _ => wy_240⟩
theorem wz_242 : ∀ a, a < 242 → (∀ ip, ip < m_cnt a → wfE a ip = true) ∧ (a ≠ 0 → wfY a = true) := lt_s wz_241 ⟨w_241, fun _ => wy_241⟩
theorem wz_243 : ∀ a, a < 243 → (∀ ip, ip < m_cnt a → wfE a ip = true) ∧ (a ≠ 0 → wfY a = true) := lt_s wz_242 ⟨w_242, fun _ => wy_242⟩
theorem wz_244 : ∀ a, a < 244 → (∀ ip, ip < m_cnt a → wfE a ip = true) ∧ (a ≠ 0 → wfY a = true) := lt_s wz_243 ⟨w_243, fun _ => wy_243⟩
theorem wz_245 : ∀ a, a < 245 → (∀ ip, ip < m_cnt a → wfE a ip = true) ∧ (a ≠ 0 → wfY a = true) := lt_s wz_244 ⟨w_244, fun _ => wy_244⟩
theorem wz_246 : ∀ a, a < 246 → (∀ ip, ip < m_cnt a → wfE a ip = true) ∧ (a ≠ 0 → wfY a = true) := lt_s wz_245 ⟨w_245, fun _ => wy_245⟩
theorem wz_247 : ∀ a, a < 247 → (∀ ip, ip < m_cnt a → wfE a ip = true) ∧ (a ≠ 0 → wfY a = true) := lt_s wz_246 ⟨w_246, fun _ => wy_246⟩
theorem wz_248 : ∀ a, a < 248 → (∀ ip, ip < m_cnt a → wfE a ip = true) ∧ (a ≠ 0 → wfY a = true) := lt_s wz_247 ⟨w_247, fun _ => wy_247⟩
theorem wz_249 : ∀ a, a < 249 → (∀ ip, ip < m_cnt a → wfE a ip = true) ∧ (a ≠ 0 → wfY a = true) := lt_s wz_248 ⟨w_248, fun _ => wy_248⟩
theorem wz_250 : ∀ a, a < 250 → (∀ ip, ip < m_cnt a → wfE a ip = true) ∧ (a ≠ 0 → wfY a = true) := lt_s wz_249 ⟨w_249, fun _ => wy_249⟩
theorem wz_251 : ∀ a, a < 251 → (∀ ip, ip < m_cnt a → wfE a ip = true) ∧ (a ≠ 0 → wfY a = true) := lt_s wz_250 ⟨w_250, fun _ => wy_250⟩
theorem wz_252 : ∀ a, a < 252 → (∀ ip, ip < m_cnt a → wfE a ip = true) ∧ (a ≠ 0 → wfY a = true) := lt_s wz_251 ⟨w_251, fun _ => wy_251⟩
theorem wz_253 : ∀ a, a < 253 → (∀ ip, ip < m_cnt a → wfE a ip = true) ∧ (a ≠ 0 → wfY a = true) := lt_s wz_252 ⟨w_252, fun _ => wy_252⟩
