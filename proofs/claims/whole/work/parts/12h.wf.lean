theorem w_253 : ∀ ip, ip < m_cnt 253 → wfE 253 ip = true := fun ip h => List.all_eq_true.mp (show (List.range (m_cnt 253)).all (wfE 253) = true by decide +kernel) ip (List.mem_range.mpr h)
theorem wy_253 : wfY 253 = true := by decide +kernel
theorem w_254 : ∀ ip, ip < m_cnt 254 → wfE 254 ip = true := fun ip h => List.all_eq_true.mp (show (List.range (m_cnt 254)).all (wfE 254) = true by decide +kernel) ip (List.mem_range.mpr h)
theorem wy_254 : wfY 254 = true := by decide +kernel
theorem w_255 : ∀ ip, ip < m_cnt 255 → wfE 255 ip = true := fun ip h => List.all_eq_true.mp (show (List.range (m_cnt 255)).all (wfE 255) = true by decide +kernel) ip (List.mem_range.mpr h)
theorem wy_255 : wfY 255 = true := by decide +kernel
theorem w_256 : ∀ ip, ip < m_cnt 256 → wfE 256 ip = true := fun ip h => List.all_eq_true.mp (show (List.range (m_cnt 256)).all (wfE 256) = true by decide +kernel) ip (List.mem_range.mpr h)
theorem wy_256 : wfY 256 = true := by decide +kernel
theorem w_257 : ∀ ip, ip < m_cnt 257 → wfE 257 ip = true := fun ip h => List.all_eq_true.mp (show (List.range (m_cnt 257)).all (wfE 257) = true by decide +kernel) ip (List.mem_range.mpr h)
theorem wy_257 : wfY 257 = true := by decide +kernel
theorem w_258 : ∀ ip, ip < m_cnt 258 → wfE 258 ip = true := fun ip h => List.all_eq_true.mp (show (List.range (m_cnt 258)).all (wfE 258) = true by decide +kernel) ip (List.mem_range.mpr h)
theorem wy_258 : wfY 258 = true := by decide +kernel
theorem w_259 : ∀ ip, ip < m_cnt 259 → wfE 259 ip = true := fun ip h => List.all_eq_true.mp (show (List.range (m_cnt 259)).all (wfE 259) = true by decide +kernel) ip (List.mem_range.mpr h)
theorem wy_259 : wfY 259 = true := by decide +kernel
theorem w_260 : ∀ ip, ip < m_cnt 260 → wfE 260 ip = true := fun ip h => List.all_eq_true.mp (show (List.range (m_cnt 260)).all (wfE 260) = true by decide +kernel) ip (List.mem_range.mpr h)
theorem wy_260 : wfY 260 = true := by decide +kernel
theorem w_261 : ∀ ip, ip < m_cnt 261 → wfE 261 ip = true := fun ip h => List.all_eq_true.mp (show (List.range (m_cnt 261)).all (wfE 261) = true by decide +kernel) ip (List.mem_range.mpr h)
theorem wy_261 : wfY 261 = true := by decide +kernel
theorem w_262 : ∀ ip, ip < m_cnt 262 → wfE 262 ip = true := fun ip h => List.all_eq_true.mp (show (List.range (m_cnt 262)).all (wfE 262) = true by decide +kernel) ip (List.mem_range.mpr h)
theorem wy_262 : wfY 262 = true := by decide +kernel
theorem w_263 : ∀ ip, ip < m_cnt 263 → wfE 263 ip = true := fun ip h => List.all_eq_true.mp (show (List.range (m_cnt 263)).all (wfE 263) = true by decide +kernel) ip (List.mem_range.mpr h)
theorem wy_263 : wfY 263 = true := by decide +kernel
theorem w_264 : ∀ ip, ip < m_cnt 264 → wfE 264 ip = true := fun ip h => List.all_eq_true.mp (show (List.range (m_cnt 264)).all (wfE 264) = true by decide +kernel) ip (List.mem_range.mpr h)
theorem wy_264 : wfY 264 = true := by decide +kernel
theorem w_265 : ∀ ip, ip < m_cnt 265 → wfE 265 ip = true := fun ip h => List.all_eq_true.mp (show (List.range (m_cnt 265)).all (wfE 265) = true by decide +kernel) ip (List.mem_range.mpr h)
theorem wy_265 : wfY 265 = true := by decide +kernel
theorem w_266 : ∀ ip, ip < m_cnt 266 → wfE 266 ip = true := fun ip h => List.all_eq_true.mp (show (List.range (m_cnt 266)).all (wfE 266) = true by decide +kernel) ip (List.mem_range.mpr h)
theorem wy_266 : wfY 266 = true := by decide +kernel
theorem w_267 : ∀ ip, ip < m_cnt 267 → wfE 267 ip = true := fun ip h => List.all_eq_true.mp (show (List.range (m_cnt 267)).all (wfE 267) = true by decide +kernel) ip (List.mem_range.mpr h)
theorem wy_267 : wfY 267 = true := by decide +kernel
theorem w_268 : ∀ ip, ip < m_cnt 268 → wfE 268 ip = true := fun ip h => List.all_eq_true.mp (show (List.range (m_cnt 268)).all (wfE 268) = true by decide +kernel) ip (List.mem_range.mpr h)
theorem wy_268 : wfY 268 = true := by decide +kernel
theorem w_269 : ∀ ip, ip < m_cnt 269 → wfE 269 ip = true := fun ip h => List.all_eq_true.mp (show (List.range (m_cnt 269)).all (wfE 269) = true by decide +kernel) ip (List.mem_range.mpr h)
theorem wy_269 : wfY 269 = true := by decide +kernel
theorem w_270 : ∀ ip, ip < m_cnt 270 → wfE 270 ip = true := fun ip h => List.all_eq_true.mp (show (List.range (m_cnt 270)).all (wfE 270) = true by decide +kernel) ip (List.mem_range.mpr h)
theorem wy_270 : wfY 270 = true := by decide +kernel
theorem w_271 : ∀ ip, ip < m_cnt 271 → wfE 271 ip = true := fun ip h => List.all_eq_true.mp (show (List.range (m_cnt 271)).all (wfE 271) = true by decide +kernel) ip (List.mem_range.mpr h)
theorem wy_271 : wfY 271 = true := by decide +kernel
theorem w_272 : ∀ ip, ip < m_cnt 272 → wfE 272 ip = true := fun ip h => List.all_eq_true.mp (show (List.range (m_cnt 272)).all (wfE 272) = true by decide +kernel) ip (List.mem_range.mpr h)
theorem wy_272 : wfY 272 = true := by decide +kernel
theorem w_273 : ∀ ip, ip < m_cnt 273 → wfE 273 ip = true := fun ip h => List.all_eq_true.mp (show (List.range (m_cnt 273)).all (wfE 273) = true by decide +kernel) ip (List.mem_range.mpr h)
theorem wy_273 : wfY 273 = true := by decide +kernel
theorem w_274 : ∀ ip, ip < m_cnt 274 → wfE 274 ip = true := fun ip h => List.all_eq_true.mp (show (List.range (m_cnt 274)).all (wfE 274) = true by decide +kernel) ip (List.mem_range.mpr h)
theorem wy_274 : wfY 274 = true := by decide +kernel
theorem w_275 : ∀ ip, ip < m_cnt 275 → wfE 275 ip = true := fun ip h => List.all_eq_true.mp (show (List.range (m_cnt 275)).all (wfE 275) = true by decide +kernel) ip (List.mem_range.mpr h)
theorem wy_275 : wfY 275 = true := by decide +kernel
theorem w_276 : ∀ ip, ip < m_cnt 276 → wfE 276 ip = true := fun ip h => List.all_eq_true.mp (show (List.range (m_cnt 276)).all (wfE 276) = true by decide +kernel) ip (List.mem_range.mpr h)
theorem wy_276 : wfY 276 = true := by decide +kernel
theorem w_277 : ∀ ip, ip < m_cnt 277 → wfE 277 ip = true := fun ip h => List.all_eq_true.mp (show (List.range (m_cnt 277)).all (wfE 277) = true by decide +kernel) ip (List.mem_range.mpr h)
theorem wy_277 : wfY 277 = true := by decide +kernel
theorem w_278 : ∀ ip, ip < m_cnt 278 → wfE 278 ip = true := fun ip h => List.all_eq_true.mp (show (List.range (m_cnt 278)).all (wfE 278) = true by decide +kernel) ip (List.mem_range.mpr h)
theorem wy_278 : wfY 278 = true := by decide +kernel
theorem w_279 : ∀ ip, ip < m_cnt 279 → wfE 279 ip = true := fun ip h => List.all_eq_true.mp (show (List.range (m_cnt 279)).all (wfE 279) = true by decide +kernel) ip (List.mem_range.mpr h)
theorem wy_279 : wfY 279 = true := by decide +kernel
theorem w_280 : ∀ ip, ip < m_cnt 280 → wfE 280 ip = true := fun ip h => List.all_eq_true.mp (show (List.range (m_cnt 280)).all (wfE 280) = true by decide +kernel) ip (List.mem_range.mpr h)
theorem wy_280 : wfY 280 = true := by decide +kernel
theorem w_281 : ∀ ip, ip < m_cnt 281 → wfE 281 ip = true := fun ip h => List.all_eq_true.mp (show (List.range (m_cnt 281)).all (wfE 281) = true by decide +kernel) ip (List.mem_range.mpr h)
theorem wy_281 : wfY 281 = true := by decide +kernel
theorem w_282 : ∀ ip, ip < m_cnt 282 → wfE 282 ip = true := fun ip h => List.all_eq_true.mp (show (List.range (m_cnt 282)).all (wfE 282) = true by decide +kernel) ip (List.mem_range.mpr h)
theorem wy_282 : wfY 282 = true := by decide +kernel
theorem w_283 : ∀ ip, ip < m_cnt 283 → wfE 283 ip = true := fun ip h => List.all_eq_true.mp (show (List.range (m_cnt 283)).all (wfE 283) = true by decide +kernel) ip (List.mem_range.mpr h)
theorem wy_283 : wfY 283 = true := by decide +kernel
theorem w_284 : ∀ ip, ip < m_cnt 284 → wfE 284 ip = true := fun ip h => List.all_eq_true.mp (show (List.range (m_cnt 284)).all (wfE 284) = true by decide +kernel) ip (List.mem_range.mpr h)
theorem wy_284 : wfY 284 = true := by decide +kernel
theorem w_285 : ∀ ip, ip < m_cnt 285 → wfE 285 ip = true := fun ip h => List.all_eq_true.mp (show (List.range (m_cnt 285)).all (wfE 285) = true by decide +kernel) ip (List.mem_range.mpr h)
theorem wy_285 : wfY 285 = true := by decide +kernel
theorem w_286 : ∀ ip, ip < m_cnt 286 → wfE 286 ip = true := fun ip h => List.all_eq_true.mp (show (List.range (m_cnt 286)).all (wfE 286) = true by decide +kernel) ip (List.mem_range.mpr h)
theorem wy_286 : wfY 286 = true := by decide +kernel
theorem w_287 : ∀ ip, ip < m_cnt 287 → wfE 287 ip = true := fun ip h => List.all_eq_true.mp (show (List.range (m_cnt 287)).all (wfE 287) = true by decide +kernel) ip (List.mem_range.mpr h)
theorem wy_287 : wfY 287 = true := by decide +kernel
theorem w_288 : ∀ ip, ip < m_cnt 288 → wfE 288 ip = true := fun ip h => List.all_eq_true.mp (show (List.range (m_cnt 288)).all (wfE 288) = true by decide +kernel) ip (List.mem_range.mpr h)
theorem wy_288 : wfY 288 = true := by decide +kernel
theorem w_289 : ∀ ip, ip < m_cnt 289 → wfE 289 ip = true := fun ip h => List.all_eq_true.mp (show (List.range (m_cnt 289)).all (wfE 289) = true by decide +kernel) ip (List.mem_range.mpr h)
theorem wy_289 : wfY 289 = true := by decide +kernel
theorem w_290 : ∀ ip, ip < m_cnt 290 → wfE 290 ip = true := fun ip h => List.all_eq_true.mp (show (List.range (m_cnt 290)).all (wfE 290) = true by decide +kernel) ip (List.mem_range.mpr h)
theorem wy_290 : wfY 290 = true := by decide +kernel
theorem w_291 : ∀ ip, ip < m_cnt 291 → wfE 291 ip = true := fun ip h => List.all_eq_true.mp (show (List.range (m_cnt 291)).all (wfE 291) = true by decide +kernel) ip (List.mem_range.mpr h)
theorem wy_291 : wfY 291 = true := by decide +kernel
theorem w_292 : ∀ ip, ip < m_cnt 292 → wfE 292 ip = true := fun ip h => List.all_eq_true.mp (show (List.range (m_cnt 292)).all (wfE 292) = true by decide +kernel) ip (List.mem_range.mpr h)
theorem wy_292 : wfY 292 = true := by decide +kernel
theorem w_293 : ∀ ip, ip < m_cnt 293 → wfE 293 ip = true := fun ip h => List.all_eq_true.mp (show (List.range (m_cnt 293)).all (wfE 293) = true by decide +kernel) ip (List.mem_range.mpr h)
theorem wy_293 : wfY 293 = true := by decide +kernel
theorem w_294 : ∀ ip, ip < m_cnt 294 → wfE 294 ip = true := fun ip h => List.all_eq_true.mp (show (List.range (m_cnt 294)).all (wfE 294) = true by decide +kernel) ip (List.mem_range.mpr h)
theorem wy_294 : wfY 294 = true := by decide +kernel
theorem wz_254 : ∀ a, a < 254 → (∀ ip, ip < m_cnt a → wfE a ip = true) ∧ (a ≠ 0 → wfY a = true) := lt_s wz_253 ⟨w_253, fun _ => wy_253⟩
theorem wz_255 : ∀ a, a < 255 → (∀ ip, ip < m_cnt a → wfE a ip = true) ∧ (a ≠ 0 → wfY a = true) := lt_s wz_254 ⟨w_254, fun _ => wy_254⟩
theorem wz_256 : ∀ a, a < 256 → (∀ ip, ip < m_cnt a → wfE a ip = true) ∧ (a ≠ 0 → wfY a = true) := lt_s wz_255 ⟨w_255, fun _ => wy_255⟩
theorem wz_257 : ∀ a, a < 257 → (∀ ip, ip < m_cnt a → wfE a ip = true) ∧ (a ≠ 0 → wfY a = true) := lt_s wz_256 ⟨w_256, fun _ => wy_256⟩
theorem wz_258 : ∀ a, a < 258 → (∀ ip, ip < m_cnt a → wfE a ip = true) ∧ (a ≠ 0 → wfY a = true) := lt_s wz_257 ⟨w_257, fun _ => wy_257⟩
theorem wz_259 : ∀ a, a < 259 → (∀ ip, ip < m_cnt a → wfE a ip = true) ∧ (a ≠ 0 → wfY a = true) := lt_s wz_258 ⟨w_258, fun _ => wy_258⟩
theorem wz_260 : ∀ a, a < 260 → (∀ ip, ip < m_cnt a → wfE a ip = true) ∧ (a ≠ 0 → wfY a = true) := lt_s wz_259 ⟨w_259, fun _ => wy_259⟩
theorem wz_261 : ∀ a, a < 261 → (∀ ip, ip < m_cnt a → wfE a ip = true) ∧ (a ≠ 0 → wfY a = true) := lt_s wz_260 ⟨w_260, fun _ => wy_260⟩
theorem wz_262 : ∀ a, a < 262 → (∀ ip, ip < m_cnt a → wfE a ip = true) ∧ (a ≠ 0 → wfY a = true) := lt_s wz_261 ⟨w_261, fun _ => wy_261⟩
theorem wz_263 : ∀ a, a < 263 → (∀ ip, ip < m_cnt a → wfE a ip = true) ∧ (a ≠ 0 → wfY a = true) := lt_s wz_262 ⟨w_262, fun _ => wy_262⟩
theorem wz_264 : ∀ a, a < 264 → (∀ ip, ip < m_cnt a → wfE a ip = true) ∧ (a ≠ 0 → wfY a = true) := lt_s wz_263 ⟨w_263, fun _ => wy_263⟩
theorem wz_265 : ∀ a, a < 265 → (∀ ip, ip < m_cnt a → wfE a ip = true) ∧ (a ≠ 0 → wfY a = true) := lt_s wz_264 ⟨w_264, fun _ => wy_264⟩
theorem wz_266 : ∀ a, a < 266 → (∀ ip, ip < m_cnt a → wfE a ip = true) ∧ (a ≠ 0 → wfY a = true) := lt_s wz_265 ⟨w_265, fun _ => wy_265⟩
theorem wz_267 : ∀ a, a < 267 → (∀ ip, ip < m_cnt a → wfE a ip = true) ∧ (a ≠ 0 → wfY a = true) := lt_s wz_266 ⟨w_266, fun _ => wy_266⟩
theorem wz_268 : ∀ a, a < 268 → (∀ ip, ip < m_cnt a → wfE a ip = true) ∧ (a ≠ 0 → wfY a = true) := lt_s wz_267 ⟨w_267, fun _ => wy_267⟩
theorem wz_269 : ∀ a, a < 269 → (∀ ip, ip < m_cnt a → wfE a ip = true) ∧ (a ≠ 0 → wfY a = true) := lt_s wz_268 ⟨w_268, fun _ => wy_268⟩
theorem wz_270 : ∀ a, a < 270 → (∀ ip, ip < m_cnt a → wfE a ip = true) ∧ (a ≠ 0 → wfY a = true) := lt_s wz_269 ⟨w_269, fun _ => wy_269⟩
theorem wz_271 : ∀ a, a < 271 → (∀ ip, ip < m_cnt a → wfE a ip = true) ∧ (a ≠ 0 → wfY a = true) := lt_s wz_270 ⟨w_270, fun _ => wy_270⟩
theorem wz_272 : ∀ a, a < 272 → (∀ ip, ip < m_cnt a → wfE a ip = true) ∧ (a ≠ 0 → wfY a = true) := lt_s wz_271 ⟨w_271, fun _ => wy_271⟩
theorem wz_273 : ∀ a, a < 273 → (∀ ip, ip < m_cnt a → wfE a ip = true) ∧ (a ≠ 0 → wfY a = true) := lt_s wz_272 ⟨w_272, fun _ => wy_272⟩
theorem wz_274 : ∀ a, a < 274 → (∀ ip, ip < m_cnt a → wfE a ip = true) ∧ (a ≠ 0 → wfY a = true) := lt_s wz_273 ⟨w_273, fun _ => wy_273⟩
theorem wz_275 : ∀ a, a < 275 → (∀ ip, ip < m_cnt a → wfE a ip = true) ∧ (a ≠ 0 → wfY a = true) := lt_s wz_274 ⟨w_274, fun _ => wy_274⟩
theorem wz_276 : ∀ a, a < 276 → (∀ ip, ip < m_cnt a → wfE a ip = true) ∧ (a ≠ 0 → wfY a = true) := lt_s wz_275 ⟨w_275, fun _ => wy_275⟩
theorem wz_277 : ∀ a, a < 277 → (∀ ip, ip < m_cnt a → wfE a ip = true) ∧ (a ≠ 0 → wfY a = true) := lt_s wz_276 ⟨w_276, fun _ => wy_276⟩
theorem wz_278 : ∀ a, a < 278 → (∀ ip, ip < m_cnt a → wfE a ip = true) ∧ (a ≠ 0 → wfY a = true) := lt_s wz_277 ⟨w_277, fun _ => wy_277⟩
theorem wz_279 : ∀ a, a < 279 → (∀ ip, ip < m_cnt a → wfE a ip = true) ∧ (a ≠ 0 → wfY a = true) := lt_s wz_278 ⟨w_278, fun _ => wy_278⟩
theorem wz_280 : ∀ a, a < 280 → (∀ ip, ip < m_cnt a → wfE a ip = true) ∧ (a ≠ 0 → wfY a = true) := lt_s wz_279 ⟨w_279, fun _ => wy_279⟩
theorem wz_281 : ∀ a, a < 281 → (∀ ip, ip < m_cnt a → wfE a ip = true) ∧ (a ≠ 0 → wfY a = true) := lt_s wz_280 ⟨w_280, fun _ => wy_280⟩
theorem wz_282 : ∀ a, a < 282 → (∀ ip, ip < m_cnt a → wfE a ip = true) ∧ (a ≠ 0 → wfY a = true) := lt_s wz_281 ⟨w_281, fun _ => wy_281⟩
theorem wz_283 : ∀ a, a < 283 → (∀ ip, ip < m_cnt a → wfE a ip = true) ∧ (a ≠ 0 → wfY a = true) := lt_s wz_282 ⟨w_282, fun _ => wy_282⟩
theorem wz_284 : ∀ a, a < 284 → (∀ ip, ip < m_cnt a → wfE a ip = true) ∧ (a ≠ 0 → wfY a = true) := lt_s wz_283 ⟨w_283, fun _ => wy_283⟩
theorem wz_285 : ∀ a, a < 285 → (∀ ip, ip < m_cnt a → wfE a ip = true) ∧ (a ≠ 0 → wfY a = true) := lt_s wz_284 ⟨w_284, fun _ => wy_284⟩
theorem wz_286 : ∀ a, a < 286 → (∀ ip, ip < m_cnt a → wfE a ip = true) ∧ (a ≠ 0 → wfY a = true) := lt_s wz_285 ⟨w_285, fun _ => wy_285⟩
theorem wz_287 : ∀ a, a < 287 → (∀ ip, ip < m_cnt a → wfE a ip = true) ∧ (a ≠ 0 → wfY a = true) := lt_s wz_286 ⟨w_286, fun _ => wy_286⟩
theorem wz_288 : ∀ a, a < 288 → (∀ ip, ip < m_cnt a → wfE a ip = true) ∧ (a ≠ 0 → wfY a = true) := lt_s wz_287 ⟨w_287, fun _ => wy_287⟩
theorem wz_289 : ∀ a, a < 289 → (∀ ip, ip < m_cnt a → wfE a ip = true) ∧ (a ≠ 0 → wfY a = true) := lt_s wz_288 ⟨w_288, fun _ => wy_288⟩
theorem wz_290 : ∀ a, a < 290 → (∀ ip, ip < m_cnt a → wfE a ip = true) ∧ (a ≠ 0 → wfY a = true) := lt_s wz_289 ⟨w_289, fun _ => wy_289⟩
theorem wz_291 : ∀ a, a < 291 → (∀ ip, ip < m_cnt a → wfE a ip = true) ∧ (a ≠ 0 → wfY a = true) := lt_s wz_290 ⟨w_290, fun _ => wy_290⟩
theorem wz_292 : ∀ a, a < 292 → (∀ ip, ip < m_cnt a → wfE a ip = true) ∧ (a ≠ 0 → wfY a = true) := lt_s wz_291 ⟨w_291, fun _ => wy_291⟩
theorem wz_293 : ∀ a, a < 293 → (∀ ip, ip < m_cnt a → wfE a ip = true) ∧ (a ≠ 0 → wfY a = true) := lt_s wz_292 ⟨w_292, fun _ => wy_292⟩
theorem wz_294 : ∀ a, a < 294 → (∀ ip, ip < m_cnt a → wfE a ip = true) ∧ (a ≠ 0 → wfY a = true) := lt_s wz_293 ⟨w_293, fun _ => wy_293⟩
theorem wz_295 : ∀ a, a < 295 → (∀ ip, ip < m_cnt a → wfE a ip = true) ∧ (a ≠ 0 → wfY a = true) := lt_s wz_294 ⟨w_294, fun _ => wy_294⟩
