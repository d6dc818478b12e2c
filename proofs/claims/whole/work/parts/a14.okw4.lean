theorem okw_288 : okW mt_288 := by unfold okW; decide +kernel
set_option maxRecDepth 40000 in
theorem oku_288 : okU mt_288 := by unfold okU; rfl
theorem okw_289 : okW mt_289 := by unfold okW; decide +kernel
set_option maxRecDepth 40000 in
theorem oku_289 : okU mt_289 := by unfold okU; rfl
theorem okw_290 : okW mt_290 := by unfold okW; decide +kernel
set_option maxRecDepth 40000 in
theorem oku_290 : okU mt_290 := by unfold okU; rfl
theorem okw_291 : okW mt_291 := by unfold okW; decide +kernel
set_option maxRecDepth 40000 in
theorem oku_291 : okU mt_291 := by unfold okU; rfl
theorem okw_292 : okW mt_292 := by unfold okW; decide +kernel
set_option maxRecDepth 40000 in
theorem oku_292 : okU mt_292 := by unfold okU; rfl
theorem okw_293 : okW mt_293 := by unfold okW; decide +kernel
set_option maxRecDepth 40000 in
theorem oku_293 : okU mt_293 := by unfold okU; rfl
theorem okw_294 : okW mt_294 := by unfold okW; decide +kernel
set_option maxRecDepth 40000 in
theorem oku_294 : okU mt_294 := by unfold okU; rfl
theorem okw_295 : okW mt_295 := by unfold okW; decide +kernel
set_option maxRecDepth 40000 in
theorem oku_295 : okU mt_295 := by unfold okU; rfl
theorem okw_296 : okW mt_296 := by unfold okW; decide +kernel
set_option maxRecDepth 40000 in
theorem oku_296 : okU mt_296 := by unfold okU; rfl
theorem okw_297 : okW mt_297 := by unfold okW; decide +kernel
set_option maxRecDepth 40000 in
theorem oku_297 : okU mt_297 := by unfold okU; rfl
theorem okw_298 : okW mt_298 := by unfold okW; decide +kernel
set_option maxRecDepth 40000 in
theorem oku_298 : okU mt_298 := by unfold okU; rfl
theorem okw_299 : okW mt_299 := by unfold okW; decide +kernel
set_option maxRecDepth 40000 in
theorem oku_299 : okU mt_299 := by unfold okU; rfl
theorem okw_300 : okW mt_300 := by unfold okW; decide +kernel
set_option maxRecDepth 40000 in
theorem oku_300 : okU mt_300 := by unfold okU; rfl
theorem okw_301 : okW mt_301 := by unfold okW; decide +kernel
set_option maxRecDepth 40000 in
theorem oku_301 : okU mt_301 := by unfold okU; rfl
theorem okw_302 : okW mt_302 := by unfold okW; decide +kernel
set_option maxRecDepth 40000 in
theorem oku_302 : okU mt_302 := by unfold okU; rfl
theorem okw_303 : okW mt_303 := by unfold okW; decide +kernel
set_option maxRecDepth 40000 in
theorem oku_303 : okU mt_303 := by unfold okU; rfl
theorem okw_304 : okW mt_304 := by unfold okW; decide +kernel
set_option maxRecDepth 40000 in
theorem oku_304 : okU mt_304 := by unfold okU; rfl
theorem okw_305 : okW mt_305 := by unfold okW; decide +kernel
set_option maxRecDepth 40000 in
theorem oku_305 : okU mt_305 := by unfold okU; rfl
theorem okw_306 : okW mt_306 := by unfold okW; decide +kernel
set_option maxRecDepth 40000 in
theorem oku_306 : okU mt_306 := by unfold okU; rfl
theorem okw_307 : okW mt_307 := by unfold okW; decide +kernel
set_option maxRecDepth 40000 in
theorem oku_307 : okU mt_307 := by unfold okU; rfl
theorem okw_308 : okW mt_308 := by unfold okW; decide +kernel
set_option maxRecDepth 40000 in
theorem oku_308 : okU mt_308 := by unfold okU; rfl
theorem okw_309 : okW mt_309 := by unfold okW; decide +kernel
set_option maxRecDepth 40000 in
theorem oku_309 : okU mt_309 := by unfold okU; rfl
theorem okw_310 : okW mt_310 := by unfold okW; decide +kernel
set_option maxRecDepth 40000 in
theorem oku_310 : okU mt_310 := by unfold okU; rfl
theorem okw_311 : okW mt_311 := by unfold okW; decide +kernel
set_option maxRecDepth 40000 in
theorem oku_311 : okU mt_311 := by unfold okU; rfl
theorem okw_312 : okW mt_312 := by unfold okW; decide +kernel
set_option maxRecDepth 40000 in
theorem oku_312 : okU mt_312 := by unfold okU; rfl
theorem okw_313 : okW mt_313 := by unfold okW; decide +kernel
set_option maxRecDepth 40000 in
theorem oku_313 : okU mt_313 := by unfold okU; rfl
theorem okw_314 : okW mt_314 := by unfold okW; decide +kernel
set_option maxRecDepth 40000 in
theorem oku_314 : okU mt_314 := by unfold okU; rfl
theorem okw_315 : okW mt_315 := by unfold okW; decide +kernel
set_option maxRecDepth 40000 in
theorem oku_315 : okU mt_315 := by unfold okU; rfl
theorem okw_316 : okW mt_316 := by unfold okW; decide +kernel
set_option maxRecDepth 40000 in
theorem oku_316 : okU mt_316 := by unfold okU; rfl
theorem okw_317 : okW mt_317 := by unfold okW; decide +kernel
set_option maxRecDepth 40000 in
theorem oku_317 : okU mt_317 := by unfold okU; rfl
theorem okw_318 : okW mt_318 := by unfold okW; decide +kernel
set_option maxRecDepth 40000 in
theorem oku_318 : okU mt_318 := by unfold okU; rfl
theorem okw_319 : okW mt_319 := by unfold okW; decide +kernel
set_option maxRecDepth 40000 in
theorem oku_319 : okU mt_319 := by unfold okU; rfl
theorem OKW_9 : ∀ e ∈ MTL_9, okW e ∧ okU e := List.forall_mem_cons.mpr ⟨⟨okw_288, oku_288⟩, List.forall_mem_cons.mpr ⟨⟨okw_289, oku_289⟩, List.forall_mem_cons.mpr ⟨⟨okw_290, oku_290⟩, List.forall_mem_cons.mpr ⟨⟨okw_291, oku_291⟩, List.forall_mem_cons.mpr ⟨⟨okw_292, oku_292⟩, List.forall_mem_cons.mpr ⟨⟨okw_293, oku_293⟩, List.forall_mem_cons.mpr ⟨⟨okw_294, oku_294⟩, List.forall_mem_cons.mpr ⟨⟨okw_295, oku_295⟩, List.forall_mem_cons.mpr ⟨⟨okw_296, oku_296⟩, List.forall_mem_cons.mpr ⟨⟨okw_297, oku_297⟩, List.forall_mem_cons.mpr ⟨⟨okw_298, oku_298⟩, List.forall_mem_cons.mpr ⟨⟨okw_299, oku_299⟩, List.forall_mem_cons.mpr ⟨⟨okw_300, oku_300⟩, List.forall_mem_cons.mpr ⟨⟨okw_301, oku_301⟩, List.forall_mem_cons.mpr ⟨⟨okw_302, oku_302⟩, List.forall_mem_cons.mpr ⟨⟨okw_303, oku_303⟩, List.forall_mem_cons.mpr ⟨⟨okw_304, oku_304⟩, List.forall_mem_cons.mpr ⟨⟨okw_305, oku_305⟩, List.forall_mem_cons.mpr ⟨⟨okw_306, oku_306⟩, List.forall_mem_cons.mpr ⟨⟨okw_307, oku_307⟩, List.forall_mem_cons.mpr ⟨⟨okw_308, oku_308⟩, List.forall_mem_cons.mpr ⟨⟨okw_309, oku_309⟩, List.forall_mem_cons.mpr ⟨⟨okw_310, oku_310⟩, List.forall_mem_cons.mpr ⟨⟨okw_311, oku_311⟩, List.forall_mem_cons.mpr ⟨⟨okw_312, oku_312⟩, List.forall_mem_cons.mpr ⟨⟨okw_313, oku_313⟩, List.forall_mem_cons.mpr ⟨⟨okw_314, oku_314⟩, List.forall_mem_cons.mpr ⟨⟨okw_315, oku_315⟩, List.forall_mem_cons.mpr ⟨⟨okw_316, oku_316⟩, List.forall_mem_cons.mpr ⟨⟨okw_317, oku_317⟩, List.forall_mem_cons.mpr ⟨⟨okw_318, oku_318⟩, List.forall_mem_cons.mpr ⟨⟨okw_319, oku_319⟩, fun _ h => absurd h List.not_mem_nil⟩⟩⟩⟩⟩⟩⟩⟩⟩⟩⟩⟩⟩⟩⟩⟩⟩⟩⟩⟩⟩⟩⟩⟩⟩⟩⟩⟩⟩⟩⟩⟩
theorem okw_320 : okW mt_320 := by unfold okW; decide +kernel
set_option maxRecDepth 40000 in
theorem oku_320 : okU mt_320 := by unfold okU; rfl
theorem okw_321 : okW mt_321 := by unfold okW; decide +kernel
set_option maxRecDepth 40000 in
theorem oku_321 : okU mt_321 := by unfold okU; rfl
theorem okw_322 : okW mt_322 := by unfold okW; decide +kernel
set_option maxRecDepth 40000 in
theorem oku_322 : okU mt_322 := by unfold okU; rfl
theorem okw_323 : okW mt_323 := by unfold okW; decide +kernel
set_option maxRecDepth 40000 in
theorem oku_323 : okU mt_323 := by unfold okU; rfl
theorem okw_324 : okW mt_324 := by unfold okW; decide +kernel
set_option maxRecDepth 40000 in
theorem oku_324 : okU mt_324 := by unfold okU; rfl
theorem okw_325 : okW mt_325 := by unfold okW; decide +kernel
set_option maxRecDepth 40000 in
theorem oku_325 : okU mt_325 := by unfold okU; rfl
theorem okw_326 : okW mt_326 := by unfold okW; decide +kernel
set_option maxRecDepth 40000 in
theorem oku_326 : okU mt_326 := by unfold okU; rfl
theorem okw_327 : okW mt_327 := by unfold okW; decide +kernel
set_option maxRecDepth 40000 in
theorem oku_327 : okU mt_327 := by unfold okU; rfl
theorem okw_328 : okW mt_328 := by unfold okW; decide +kernel
set_option maxRecDepth 40000 in
theorem oku_328 : okU mt_328 := by unfold okU; rfl
theorem okw_329 : okW mt_329 := by unfold okW; decide +kernel
set_option maxRecDepth 40000 in
theorem oku_329 : okU mt_329 := by unfold okU; rfl
theorem okw_330 : okW mt_330 := by unfold okW; decide +kernel
set_option maxRecDepth 40000 in
theorem oku_330 : okU mt_330 := by unfold okU; rfl
theorem okw_331 : okW mt_331 := by unfold okW; decide +kernel
set_option maxRecDepth 40000 in
theorem oku_331 : okU mt_331 := by unfold okU; rfl
theorem okw_332 : okW mt_332 := by unfold okW; decide +kernel
set_option maxRecDepth 40000 in
theorem oku_332 : okU mt_332 := by unfold okU; rfl
theorem okw_333 : okW mt_333 := by unfold okW; decide +kernel
set_option maxRecDepth 40000 in
theorem oku_333 : okU mt_333 := by unfold okU; rfl
theorem okw_334 : okW mt_334 := by unfold okW; decide +kernel
set_option maxRecDepth 40000 in
theorem oku_334 : okU mt_334 := by unfold okU; rfl
theorem okw_335 : okW mt_335 := by unfold okW; decide +kernel
set_option maxRecDepth 40000 in
theorem oku_335 : okU mt_335 := by unfold okU; rfl
theorem okw_336 : okW mt_336 := by unfold okW; decide +kernel
set_option maxRecDepth 40000 in
theorem oku_336 : okU mt_336 := by unfold okU; rfl
theorem okw_337 : okW mt_337 := by unfold okW; decide +kernel
set_option maxRecDepth 40000 in
theorem oku_337 : okU mt_337 := by unfold okU; rfl
theorem okw_338 : okW mt_338 := by unfold okW; decide +kernel
set_option maxRecDepth 40000 in
theorem oku_338 : okU mt_338 := by unfold okU; rfl
theorem okw_339 : okW mt_339 := by unfold okW; decide +kernel
set_option maxRecDepth 40000 in
theorem oku_339 : okU mt_339 := by unfold okU; rfl
theorem okw_340 : okW mt_340 := by unfold okW; decide +kernel
set_option maxRecDepth 40000 in
theorem oku_340 : okU mt_340 := by unfold okU; rfl
theorem okw_341 : okW mt_341 := by unfold okW; decide +kernel
set_option maxRecDepth 40000 in
theorem oku_341 : okU mt_341 := by unfold okU; rfl
theorem okw_342 : okW mt_342 := by unfold okW; decide +kernel
set_option maxRecDepth 40000 in
theorem oku_342 : okU mt_342 := by unfold okU; rfl
theorem okw_343 : okW mt_343 := by unfold okW; decide +kernel
set_option maxRecDepth 40000 in
theorem oku_343 : okU mt_343 := by unfold okU; rfl
theorem okw_344 : okW mt_344 := by unfold okW; decide +kernel
set_option maxRecDepth 40000 in
theorem oku_344 : okU mt_344 := by unfold okU; rfl
theorem okw_346 : okW mt_346 := by unfold okW; decide +kernel
set_option maxRecDepth 40000 in
theorem oku_346 : okU mt_346 := by unfold okU; rfl
theorem OKW_10 : ∀ e ∈ MTL_10, okW e ∧ okU e := List.forall_mem_cons.mpr ⟨⟨okw_320, oku_320⟩, List.forall_mem_cons.mpr ⟨⟨okw_321, oku_321⟩, List.forall_mem_cons.mpr ⟨⟨okw_322, oku_322⟩, List.forall_mem_cons.mpr ⟨⟨okw_323, oku_323⟩, List.forall_mem_cons.mpr ⟨⟨okw_324, oku_324⟩, List.forall_mem_cons.mpr ⟨⟨okw_325, oku_325⟩, List.forall_mem_cons.mpr ⟨⟨okw_326, oku_326⟩, List.forall_mem_cons.mpr ⟨⟨okw_327, oku_327⟩, List.forall_mem_cons.mpr ⟨⟨okw_328, oku_328⟩, List.forall_mem_cons.mpr ⟨⟨okw_329, oku_329⟩, List.forall_mem_cons.mpr ⟨⟨okw_330, oku_330⟩, List.forall_mem_cons.mpr ⟨⟨okw_331, oku_331⟩, List.forall_mem_cons.mpr ⟨⟨okw_332, oku_332⟩, List.forall_mem_cons.mpr ⟨⟨okw_333, oku_333⟩, List.forall_mem_cons.mpr ⟨⟨okw_334, oku_334⟩, List.forall_mem_cons.mpr ⟨⟨okw_335, oku_335⟩, List.forall_mem_cons.mpr ⟨⟨okw_336, oku_336⟩, List.forall_mem_cons.mpr ⟨⟨okw_337, oku_337⟩, List.forall_mem_cons.mpr ⟨⟨okw_338, oku_338⟩, List.forall_mem_cons.mpr ⟨⟨okw_339, oku_339⟩, List.forall_mem_cons.mpr ⟨⟨okw_340, oku_340⟩, List.forall_mem_cons.mpr ⟨⟨okw_341, oku_341⟩, List.forall_mem_cons.mpr ⟨⟨okw_342, oku_342⟩, List.forall_mem_cons.mpr ⟨⟨okw_343, oku_343⟩, List.forall_mem_cons.mpr ⟨⟨okw_344, oku_344⟩, List.forall_mem_cons.mpr ⟨⟨okw_0, oku_0⟩, List.forall_mem_cons.mpr ⟨⟨okw_346, oku_346⟩, fun _ h => absurd h List.not_mem_nil⟩⟩⟩⟩⟩⟩⟩⟩⟩⟩⟩⟩⟩⟩⟩⟩⟩⟩⟩⟩⟩⟩⟩⟩⟩⟩⟩
