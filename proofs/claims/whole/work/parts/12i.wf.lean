theorem w_295 : ∀ ip, ip < m_cnt 295 → wfE 295 ip = true := fun ip h => List.all_eq_true.mp (show (List.range (m_cnt 295)).all (wfE 295) = true by decide +kernel) ip (List.mem_range.mpr h)
theorem wy_295 : wfY 295 = true := by decide +kernel
theorem w_296 : ∀ ip, ip < m_cnt 296 → wfE 296 ip = true := fun ip h => List.all_eq_true.mp (show (List.range (m_cnt 296)).all (wfE 296) = true by decide +kernel) ip (List.mem_range.mpr h)
theorem wy_296 : wfY 296 = true := by decide +kernel
theorem w_297 : ∀ ip, ip < m_cnt 297 → wfE 297 ip = true := fun ip h => List.all_eq_true.mp (show (List.range (m_cnt 297)).all (wfE 297) = true by decide +kernel) ip (List.mem_range.mpr h)
theorem wy_297 : wfY 297 = true := by decide +kernel
theorem w_298 : ∀ ip, ip < m_cnt 298 → wfE 298 ip = true := fun ip h => List.all_eq_true.mp (show (List.range (m_cnt 298)).all (wfE 298) = true by decide +kernel) ip (List.mem_range.mpr h)
theorem wy_298 : wfY 298 = true := by decide +kernel
theorem w_299 : ∀ ip, ip < m_cnt 299 → wfE 299 ip = true := fun ip h => List.all_eq_true.mp (show (List.range (m_cnt 299)).all (wfE 299) = true by decide +kernel) ip (List.mem_range.mpr h)
theorem wy_299 : wfY 299 = true := by decide +kernel
theorem w_300 : ∀ ip, ip < m_cnt 300 → wfE 300 ip = true := fun ip h => List.all_eq_true.mp (show (List.range (m_cnt 300)).all (wfE 300) = true by decide +kernel) ip (List.mem_range.mpr h)
theorem wy_300 : wfY 300 = true := by decide +kernel
theorem w_301 : ∀ ip, ip < m_cnt 301 → wfE 301 ip = true := fun ip h => List.all_eq_true.mp (show (List.range (m_cnt 301)).all (wfE 301) = true by decide +kernel) ip (List.mem_range.mpr h)
theorem wy_301 : wfY 301 = true := by decide +kernel
theorem w_302 : ∀ ip, ip < m_cnt 302 → wfE 302 ip = true := fun ip h => List.all_eq_true.mp (show (List.range (m_cnt 302)).all (wfE 302) = true by decide +kernel) ip (List.mem_range.mpr h)
theorem wy_302 : wfY 302 = true := by decide +kernel
theorem w_303 : ∀ ip, ip < m_cnt 303 → wfE 303 ip = true := fun ip h => List.all_eq_true.mp (show (List.range (m_cnt 303)).all (wfE 303) = true by decide +kernel) ip (List.mem_range.mpr h)
theorem wy_303 : wfY 303 = true := by decide +kernel
theorem w_304 : ∀ ip, ip < m_cnt 304 → wfE 304 ip = true := fun ip h => List.all_eq_true.mp (show (List.range (m_cnt 304)).all (wfE 304) = true by decide +kernel) ip (List.mem_range.mpr h)
theorem wy_304 : wfY 304 = true := by decide +kernel
theorem w_305 : ∀ ip, ip < m_cnt 305 → wfE 305 ip = true := fun ip h => List.all_eq_true.mp (show (List.range (m_cnt 305)).all (wfE 305) = true by decide +kernel) ip (List.mem_range.mpr h)
theorem wy_305 : wfY 305 = true := by decide +kernel
theorem w_306 : ∀ ip, ip < m_cnt 306 → wfE 306 ip = true := fun ip h => List.all_eq_true.mp (show (List.range (m_cnt 306)).all (wfE 306) = true by decide +kernel) ip (List.mem_range.mpr h)
theorem wy_306 : wfY 306 = true := by decide +kernel
theorem w_307 : ∀ ip, ip < m_cnt 307 → wfE 307 ip = true := fun ip h => List.all_eq_true.mp (show (List.range (m_cnt 307)).all (wfE 307) = true by decide +kernel) ip (List.mem_range.mpr h)
theorem wy_307 : wfY 307 = true := by decide +kernel
theorem w_308 : ∀ ip, ip < m_cnt 308 → wfE 308 ip = true := fun ip h => List.all_eq_true.mp (show (List.range (m_cnt 308)).all (wfE 308) = true by decide +kernel) ip (List.mem_range.mpr h)
theorem wy_308 : wfY 308 = true := by decide +kernel
theorem w_309 : ∀ ip, ip < m_cnt 309 → wfE 309 ip = true := fun ip h => List.all_eq_true.mp (show (List.range (m_cnt 309)).all (wfE 309) = true by decide +kernel) ip (List.mem_range.mpr h)
theorem wy_309 : wfY 309 = true := by decide +kernel
theorem w_310 : ∀ ip, ip < m_cnt 310 → wfE 310 ip = true := fun ip h => List.all_eq_true.mp (show (List.range (m_cnt 310)).all (wfE 310) = true by decide +kernel) ip (List.mem_range.mpr h)
theorem wy_310 : wfY 310 = true := by decide +kernel
theorem w_311 : ∀ ip, ip < m_cnt 311 → wfE 311 ip = true := fun ip h => List.all_eq_true.mp (show (List.range (m_cnt 311)).all (wfE 311) = true by decide +kernel) ip (List.mem_range.mpr h)
theorem wy_311 : wfY 311 = true := by decide +kernel
theorem w_312 : ∀ ip, ip < m_cnt 312 → wfE 312 ip = true := fun ip h => List.all_eq_true.mp (show (List.range (m_cnt 312)).all (wfE 312) = true by decide +kernel) ip (List.mem_range.mpr h)
theorem wy_312 : wfY 312 = true := by decide +kernel
theorem w_313 : ∀ ip, ip < m_cnt 313 → wfE 313 ip = true := fun ip h => List.all_eq_true.mp (show (List.range (m_cnt 313)).all (wfE 313) = true by decide +kernel) ip (List.mem_range.mpr h)
theorem wy_313 : wfY 313 = true := by decide +kernel
theorem w_314 : ∀ ip, ip < m_cnt 314 → wfE 314 ip = true := fun ip h => List.all_eq_true.mp (show (List.range (m_cnt 314)).all (wfE 314) = true by decide +kernel) ip (List.mem_range.mpr h)
theorem wy_314 : wfY 314 = true := by decide +kernel
theorem w_315 : ∀ ip, ip < m_cnt 315 → wfE 315 ip = true := fun ip h => List.all_eq_true.mp (show (List.range (m_cnt 315)).all (wfE 315) = true by decide +kernel) ip (List.mem_range.mpr h)
theorem wy_315 : wfY 315 = true := by decide +kernel
theorem w_316 : ∀ ip, ip < m_cnt 316 → wfE 316 ip = true := fun ip h => List.all_eq_true.mp (show (List.range (m_cnt 316)).all (wfE 316) = true by decide +kernel) ip (List.mem_range.mpr h)
theorem wy_316 : wfY 316 = true := by decide +kernel
theorem w_317 : ∀ ip, ip < m_cnt 317 → wfE 317 ip = true := fun ip h => List.all_eq_true.mp (show (List.range (m_cnt 317)).all (wfE 317) = true by decide +kernel) ip (List.mem_range.mpr h)
theorem wy_317 : wfY 317 = true := by decide +kernel
theorem w_318 : ∀ ip, ip < m_cnt 318 → wfE 318 ip = true := fun ip h => List.all_eq_true.mp (show (List.range (m_cnt 318)).all (wfE 318) = true by decide +kernel) ip (List.mem_range.mpr h)
theorem wy_318 : wfY 318 = true := by decide +kernel
theorem w_319 : ∀ ip, ip < m_cnt 319 → wfE 319 ip = true := fun ip h => List.all_eq_true.mp (show (List.range (m_cnt 319)).all (wfE 319) = true by decide +kernel) ip (List.mem_range.mpr h)
theorem wy_319 : wfY 319 = true := by decide +kernel
theorem w_320 : ∀ ip, ip < m_cnt 320 → wfE 320 ip = true := fun ip h => List.all_eq_true.mp (show (List.range (m_cnt 320)).all (wfE 320) = true by decide +kernel) ip (List.mem_range.mpr h)
theorem wy_320 : wfY 320 = true := by decide +kernel
theorem w_321 : ∀ ip, ip < m_cnt 321 → wfE 321 ip = true := fun ip h => List.all_eq_true.mp (show (List.range (m_cnt 321)).all (wfE 321) = true by decide +kernel) ip (List.mem_range.mpr h)
theorem wy_321 : wfY 321 = true := by decide +kernel
theorem w_322 : ∀ ip, ip < m_cnt 322 → wfE 322 ip = true := fun ip h => List.all_eq_true.mp (show (List.range (m_cnt 322)).all (wfE 322) = true by decide +kernel) ip (List.mem_range.mpr h)
theorem wy_322 : wfY 322 = true := by decide +kernel
theorem w_323 : ∀ ip, ip < m_cnt 323 → wfE 323 ip = true := fun ip h => List.all_eq_true.mp (show (List.range (m_cnt 323)).all (wfE 323) = true by decide +kernel) ip (List.mem_range.mpr h)
theorem wy_323 : wfY 323 = true := by decide +kernel
theorem w_324 : ∀ ip, ip < m_cnt 324 → wfE 324 ip = true := fun ip h => List.all_eq_true.mp (show (List.range (m_cnt 324)).all (wfE 324) = true by decide +kernel) ip (List.mem_range.mpr h)
theorem wy_324 : wfY 324 = true := by decide +kernel
theorem w_325 : ∀ ip, ip < m_cnt 325 → wfE 325 ip = true := fun ip h => List.all_eq_true.mp (show (List.range (m_cnt 325)).all (wfE 325) = true by decide +kernel) ip (List.mem_range.mpr h)
theorem wy_325 : wfY 325 = true := by decide +kernel
theorem w_326 : ∀ ip, ip < m_cnt 326 → wfE 326 ip = true := fun ip h => List.all_eq_true.mp (show (List.range (m_cnt 326)).all (wfE 326) = true by decide +kernel) ip (List.mem_range.mpr h)
theorem wy_326 : wfY 326 = true := by decide +kernel
theorem w_327 : ∀ ip, ip < m_cnt 327 → wfE 327 ip = true := fun ip h => List.all_eq_true.mp (show (List.range (m_cnt 327)).all (wfE 327) = true by decide +kernel) ip (List.mem_range.mpr h)
theorem wy_327 : wfY 327 = true := by decide +kernel
theorem w_328 : ∀ ip, ip < m_cnt 328 → wfE 328 ip = true := fun ip h => List.all_eq_true.mp (show (List.range (m_cnt 328)).all (wfE 328) = true by decide +kernel) ip (List.mem_range.mpr h)
theorem wy_328 : wfY 328 = true := by decide +kernel
theorem w_329 : ∀ ip, ip < m_cnt 329 → wfE 329 ip = true := fun ip h => List.all_eq_true.mp (show (List.range (m_cnt 329)).all (wfE 329) = true by decide +kernel) ip (List.mem_range.mpr h)
theorem wy_329 : wfY 329 = true := by decide +kernel
theorem w_330 : ∀ ip, ip < m_cnt 330 → wfE 330 ip = true := fun ip h => List.all_eq_true.mp (show (List.range (m_cnt 330)).all (wfE 330) = true by decide +kernel) ip (List.mem_range.mpr h)
theorem wy_330 : wfY 330 = true := by decide +kernel
theorem w_331 : ∀ ip, ip < m_cnt 331 → wfE 331 ip = true := fun ip h => List.all_eq_true.mp (show (List.range (m_cnt 331)).all (wfE 331) = true by decide +kernel) ip (List.mem_range.mpr h)
theorem wy_331 : wfY 331 = true := by decide +kernel
theorem w_332 : ∀ ip, ip < m_cnt 332 → wfE 332 ip = true := fun ip h => List.all_eq_true.mp (show (List.range (m_cnt 332)).all (wfE 332) = true by decide +kernel) ip (List.mem_range.mpr h)
theorem wy_332 : wfY 332 = true := by decide +kernel
theorem w_333 : ∀ ip, ip < m_cnt 333 → wfE 333 ip = true := fun ip h => List.all_eq_true.mp (show (List.range (m_cnt 333)).all (wfE 333) = true by decide +kernel) ip (List.mem_range.mpr h)
theorem wy_333 : wfY 333 = true := by decide +kernel
theorem w_334 : ∀ ip, ip < m_cnt 334 → wfE 334 ip = true := fun ip h => List.all_eq_true.mp (show (List.range (m_cnt 334)).all (wfE 334) = true by decide +kernel) ip (List.mem_range.mpr h)
theorem wy_334 : wfY 334 = true := by decide +kernel
theorem w_335 : ∀ ip, ip < m_cnt 335 → wfE 335 ip = true := fun ip h => List.all_eq_true.mp (show (List.range (m_cnt 335)).all (wfE 335) = true by decide +kernel) ip (List.mem_range.mpr h)
theorem wy_335 : wfY 335 = true := by decide +kernel
theorem wz_296 : ∀ a, a < 296 → (∀ ip, ip < m_cnt a → wfE a ip = true) ∧ (a ≠ 0 → wfY a = true) := lt_s wz_295 ⟨w_295, fun _ => wy_295⟩
theorem wz_297 : ∀ a, a < 297 → (∀ ip, ip < m_cnt a → wfE a ip = true) ∧ (a ≠ 0 → wfY a = true) := lt_s wz_296 ⟨w_296, fun _ => wy_296⟩
theorem wz_298 : ∀ a, a < 298 → (∀ ip, ip < m_cnt a → wfE a ip = true) ∧ (a ≠ 0 → wfY a = true) := lt_s wz_297 ⟨w_297, fun _ => wy_297⟩
theorem wz_299 : ∀ a, a < 299 → (∀ ip, ip < m_cnt a → wfE a ip = true) ∧ (a ≠ 0 → wfY a = true) := lt_s wz_298 ⟨w_298, fun _ => wy_298⟩
theorem wz_300 : ∀ a, a < 300 → (∀ ip, ip < m_cnt a → wfE a ip = true) ∧ (a ≠ 0 → wfY a = true) := lt_s wz_299 ⟨w_299, fun _ => wy_299⟩
theorem wz_301 : ∀ a, a < 301 → (∀ ip, ip < m_cnt a → wfE a ip = true) ∧ (a ≠ 0 → wfY a = true) := lt_s wz_300 ⟨w_300, fun _ => wy_300⟩
theorem wz_302 : ∀ a, a < 302 → (∀ ip, ip < m_cnt a → wfE a ip = true) ∧ (a ≠ 0 → wfY a = true) := lt_s wz_301 ⟨w_301, fun _ => wy_301⟩
theorem wz_303 : ∀ a, a < 303 → (∀ ip, ip < m_cnt a → wfE a ip = true) ∧ (a ≠ 0 → wfY a = true) := lt_s wz_302 ⟨w_302, fun _ => wy_302⟩
theorem wz_304 : ∀ a, a < 304 → (∀ ip, ip < m_cnt a → wfE a ip = true) ∧ (a ≠ 0 → wfY a = true) := lt_s wz_303 ⟨w_303, fun _ => wy_303⟩
theorem wz_305 : ∀ a, a < 305 → (∀ ip, ip < m_cnt a → wfE a ip = true) ∧ (a ≠ 0 → wfY a = true) := lt_s wz_304 ⟨w_304, fun _ => wy_304⟩
theorem wz_306 : ∀ a, a < 306 → (∀ ip, ip < m_cnt a → wfE a ip = true) ∧ (a ≠ 0 → wfY a = true) := lt_s wz_305 ⟨w_305, fun _ => wy_305⟩
theorem wz_307 : ∀ a, a < 307 → (∀ ip, ip < m_cnt a → wfE a ip = true) ∧ (a ≠ 0 → wfY a = true) := lt_s wz_306 ⟨w_306, fun _ => wy_306⟩
theorem wz_308 : ∀ a, a < 308 → (∀ ip, ip < m_cnt a → wfE a ip = true) ∧ (a ≠ 0 → wfY a = true) := lt_s wz_307 ⟨w_307, fun _ => wy_307⟩
theorem wz_309 : ∀ a, a < 309 → (∀ ip, ip < m_cnt a → wfE a ip = true) ∧ (a ≠ 0 → wfY a = true) := lt_s wz_308 ⟨w_308, fun _ => wy_308⟩
theorem wz_310 : ∀ a, a < 310 → (∀ ip, ip < m_cnt a → wfE a ip = true) ∧ (a ≠ 0 → wfY a = true) := lt_s wz_309 ⟨w_309, fun _ => wy_309⟩
theorem wz_311 : ∀ a, a < 311 → (∀ ip, ip < m_cnt a → wfE a ip = true) ∧ (a ≠ 0 → wfY a = true) := lt_s wz_310 ⟨w_310, fun _ => wy_310⟩
theorem wz_312 : ∀ a, a < 312 → (∀ ip, ip < m_cnt a → wfE a ip = true) ∧ (a ≠ 0 → wfY a = true) := lt_s wz_311 ⟨w_311, fun _ => wy_311⟩
theorem wz_313 : ∀ a, a < 313 → (∀ ip, ip < m_cnt a → wfE a ip = true) ∧ (a ≠ 0 → wfY a = true) := lt_s wz_312 ⟨w_312, fun _ => wy_312⟩
theorem wz_314 : ∀ a, a < 314 → (∀ ip, ip < m_cnt a → wfE a ip = true) ∧ (a ≠ 0 → wfY a = true) := lt_s wz_313 ⟨w_313, fun _ => wy_313⟩
theorem wz_315 : ∀ a, a < 315 → (∀ ip, ip < m_cnt a → wfE a ip = true) ∧ (a ≠ 0 → wfY a = true) := lt_s wz_314 ⟨w_314, fun _ => wy_314⟩
theorem wz_316 : ∀ a, a < 316 → (∀ ip, ip < m_cnt a → wfE a ip = true) ∧ (a ≠ 0 → wfY a = true) := lt_s wz_315 ⟨w_315, fun _ => wy_315⟩
theorem wz_317 : ∀ a, a < 317 → (∀ ip, ip < m_cnt a → wfE a ip = true) ∧ (a ≠ 0 → wfY a = true) := lt_s wz_316 ⟨w_316, fun _ => wy_316⟩
theorem wz_318 : ∀ a, a < 318 → (∀ ip, ip < m_cnt a → wfE a ip = true) ∧ (a ≠ 0 → wfY a = true) := lt_s wz_317 ⟨w_317, fun _ => wy_317⟩
theorem wz_319 : ∀ a, a < 319 → (∀ ip, ip < m_cnt a → wfE a ip = true) ∧ (a ≠ 0 → wfY a = true) := lt_s wz_318 ⟨w_318, fun _ => wy_318⟩
theorem wz_320 : ∀ a, a < 320 → (∀ ip, ip < m_cnt a → wfE a ip = true) ∧ (a ≠ 0 → wfY a = true) := lt_s wz_319 ⟨w_319, fun _ => wy_319⟩
theorem wz_321 : ∀ a, a < 321 → (∀ ip, ip < m_cnt a → wfE a ip = true) ∧ (a ≠ 0 → wfY a = true) := lt_s wz_320 ⟨w_320, fun _ => wy_320⟩
theorem wz_322 : ∀ a, a < 322 → (∀ ip, ip < m_cnt a → wfE a ip = true) ∧ (a ≠ 0 → wfY a = true) := lt_s wz_321 ⟨w_321, fun _ => wy_321⟩
theorem wz_323 : ∀ a, a < 323 → (∀ ip, ip < m_cnt a → wfE a ip = true) ∧ (a ≠ 0 → wfY a = true) := lt_s wz_322 ⟨w_322, fun _ => wy_322⟩
theorem wz_324 : ∀ a, a < 324 → (∀ ip, ip < m_cnt a → wfE a ip = true) ∧ (a ≠ 0 → wfY a = true) := lt_s wz_323 ⟨w_323, fun _ => wy_323⟩
theorem wz_325 : ∀ a, a < 325 → (∀ ip, ip < m_cnt a → wfE a ip = true) ∧ (a ≠ 0 → wfY a = true) := lt_s wz_324 ⟨w_324, fun _ => wy_324⟩
theorem wz_326 : ∀ a, a < 326 → (∀ ip, ip < m_cnt a → wfE a ip = true) ∧ (a ≠ 0 → wfY a = true) := lt_s wz_325 ⟨w_325, fun _ => wy_325⟩
theorem wz_327 : ∀ a, a < 327 → (∀ ip, ip < m_cnt a → wfE a ip = true) ∧ (a ≠ 0 → wfY a = true) := lt_s wz_326 ⟨w_326, fun _ => wy_326⟩
theorem wz_328 : ∀ a, a < 328 → (∀ ip, ip < m_cnt a → wfE a ip = true) ∧ (a ≠ 0 → wfY a = true) := lt_s wz_327 ⟨w_327, fun _ => wy_327⟩
theorem wz_329 : ∀ a, a < 329 → (∀ ip, ip < m_cnt a → wfE a ip = true) ∧ (a ≠ 0 → wfY a = true) := lt_s wz_328 ⟨w_328, fun _ => wy_328⟩
theorem wz_330 : ∀ a, a < 330 → (∀ ip, ip < m_cnt a → wfE a ip = true) ∧ (a ≠ 0 → wfY a = true) := lt_s wz_329 ⟨w_329, fun _ => wy_329⟩
theorem wz_331 : ∀ a, a < 331 → (∀ ip, ip < m_cnt a → wfE a ip = true) ∧ (a ≠ 0 → wfY a = true) := lt_s wz_330 ⟨w_330, fun _ => wy_330⟩
theorem wz_332 : ∀ a, a < 332 → (∀ ip, ip < m_cnt a → wfE a ip = true) ∧ (a ≠ 0 → wfY a = true) := lt_s wz_331 ⟨w_331, fun _ => wy_331⟩
theorem wz_333 : ∀ a, a < 333 → (∀ ip, ip < m_cnt a → wfE a ip = true) ∧ (a ≠ 0 → wfY a = true) := lt_s wz_332 ⟨w_332, fun _ => wy_332⟩
theorem wz_334 : ∀ a, a < 334 → (∀ ip, ip < m_cnt a → wfE a ip = true) ∧ (a ≠ 0 → wfY a = true) := lt_s wz_333 ⟨w_333, fun _ => wy_333⟩
theorem wz_335 : ∀ a, a < 335 → (∀ ip, ip < m_cnt a → wfE a ip = true) ∧ (a ≠ 0 → wfY a = true) := lt_s wz_334 ⟨w_334, fun _ => wy_334⟩
theorem wz_336 : ∀ a, a < 336 → (∀ ip, ip < m_cnt a → wfE a ip = true) ∧ (a ≠ 0 → wfY a = true) := lt_s wz_335 ⟨w_335, fun _ => wy_335⟩
theorem m_wf : m_WF := ⟨fun k hk => (wz_336 k hk).1, fun k hk => (wz_336 k hk).2⟩
