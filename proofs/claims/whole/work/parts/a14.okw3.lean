theorem okw_192 : okW mt_192 := by unfold okW; decide +kernel
set_option maxRecDepth 40000 in
theorem oku_192 : okU mt_192 := by unfold okU; rfl
theorem okw_193 : okW mt_193 := by unfold okW; decide +kernel
set_option maxRecDepth 40000 in
theorem oku_193 : okU mt_193 := by unfold okU; rfl
theorem okw_194 : okW mt_194 := by unfold okW; decide +kernel
set_option maxRecDepth 40000 in
theorem oku_194 : okU mt_194 := by unfold okU; rfl
theorem okw_195 : okW mt_195 := by unfold okW; decide +kernel
set_option maxRecDepth 40000 in
theorem oku_195 : okU mt_195 := by unfold okU; rfl
theorem okw_196 : okW mt_196 := by unfold okW; decide +kernel
set_option maxRecDepth 40000 in
theorem oku_196 : okU mt_196 := by unfold okU; rfl
theorem okw_197 : okW mt_197 := by unfold okW; decide +kernel
set_option maxRecDepth 40000 in
theorem oku_197 : okU mt_197 := by unfold okU; rfl
theorem okw_198 : okW mt_198 := by unfold okW; decide +kernel
set_option maxRecDepth 40000 in
theorem oku_198 : okU mt_198 := by unfold okU; rfl
theorem okw_199 : okW mt_199 := by unfold okW; decide +kernel
set_option maxRecDepth 40000 in
theorem oku_199 : okU mt_199 := by unfold okU; rfl
theorem okw_200 : okW mt_200 := by unfold okW; decide +kernel
set_option maxRecDepth 40000 in
theorem oku_200 : okU mt_200 := by unfold okU; rfl
theorem okw_201 : okW mt_201 := by unfold okW; decide +kernel
set_option maxRecDepth 40000 in
theorem oku_201 : okU mt_201 := by unfold okU; rfl
theorem okw_202 : okW mt_202 := by unfold okW; decide +kernel
set_option maxRecDepth 40000 in
theorem oku_202 : okU mt_202 := by unfold okU; rfl
theorem okw_203 : okW mt_203 := by unfold okW; decide +kernel
set_option maxRecDepth 40000 in
theorem oku_203 : okU mt_203 := by unfold okU; rfl
theorem okw_204 : okW mt_204 := by unfold okW; decide +kernel
set_option maxRecDepth 40000 in
theorem oku_204 : okU mt_204 := by unfold okU; rfl
theorem okw_205 : okW mt_205 := by unfold okW; decide +kernel
set_option maxRecDepth 40000 in
theorem oku_205 : okU mt_205 := by unfold okU; rfl
theorem okw_206 : okW mt_206 := by unfold okW; decide +kernel
set_option maxRecDepth 40000 in
theorem oku_206 : okU mt_206 := by unfold okU; rfl
theorem okw_207 : okW mt_207 := by unfold okW; decide +kernel
set_option maxRecDepth 40000 in
theorem oku_207 : okU mt_207 := by unfold okU; rfl
theorem okw_208 : okW mt_208 := by unfold okW; decide +kernel
set_option maxRecDepth 40000 in
theorem oku_208 : okU mt_208 := by unfold okU; rfl
theorem okw_209 : okW mt_209 := by unfold okW; decide +kernel
set_option maxRecDepth 40000 in
theorem oku_209 : okU mt_209 := by unfold okU; rfl
theorem okw_210 : okW mt_210 := by unfold okW; decide +kernel
set_option maxRecDepth 40000 in
theorem oku_210 : okU mt_210 := by unfold okU; rfl
theorem okw_211 : okW mt_211 := by unfold okW; decide +kernel
set_option maxRecDepth 40000 in
theorem oku_211 : okU mt_211 := by unfold okU; rfl
theorem okw_212 : okW mt_212 := by unfold okW; decide +kernel
set_option maxRecDepth 40000 in
theorem oku_212 : okU mt_212 := by unfold okU; rfl
theorem okw_213 : okW mt_213 := by unfold okW; decide +kernel
set_option maxRecDepth 40000 in
theorem oku_213 : okU mt_213 := by unfold okU; rfl
theorem okw_214 : okW mt_214 := by unfold okW; decide +kernel
set_option maxRecDepth 40000 in
theorem oku_214 : okU mt_214 := by unfold okU; rfl
theorem okw_215 : okW mt_215 := by unfold okW; decide +kernel
set_option maxRecDepth 40000 in
theorem oku_215 : okU mt_215 := by unfold okU; rfl
theorem okw_216 : okW mt_216 := by unfold okW; decide +kernel
set_option maxRecDepth 40000 in
theorem oku_216 : okU mt_216 := by unfold okU; rfl
theorem okw_217 : okW mt_217 := by unfold okW; decide +kernel
set_option maxRecDepth 40000 in
theorem oku_217 : okU mt_217 := by unfold okU; rfl
theorem okw_218 : okW mt_218 := by unfold okW; decide +kernel
set_option maxRecDepth 40000 in
theorem oku_218 : okU mt_218 := by unfold okU; rfl
theorem okw_219 : okW mt_219 := by unfold okW; decide +kernel
set_option maxRecDepth 40000 in
theorem oku_219 : okU mt_219 := by unfold okU; rfl
theorem okw_220 : okW mt_220 := by unfold okW; decide +kernel
set_option maxRecDepth 40000 in
theorem oku_220 : okU mt_220 := by unfold okU; rfl
theorem okw_221 : okW mt_221 := by unfold okW; decide +kernel
set_option maxRecDepth 40000 in
theorem oku_221 : okU mt_221 := by unfold okU; rfl
theorem okw_222 : okW mt_222 := by unfold okW; decide +kernel
set_option maxRecDepth 40000 in
theorem oku_222 : okU mt_222 := by unfold okU; rfl
theorem okw_223 : okW mt_223 := by unfold okW; decide +kernel
set_option maxRecDepth 40000 in
theorem oku_223 : okU mt_223 := by unfold okU; rfl
theorem OKW_6 : ∀ e ∈ MTL_6, okW e ∧ okU e := List.forall_mem_cons.mpr ⟨⟨okw_192, oku_192⟩, List.forall_mem_cons.mpr ⟨⟨okw_193, oku_193⟩, List.forall_mem_cons.mpr ⟨⟨okw_194, oku_194⟩, List.forall_mem_cons.mpr ⟨⟨okw_195, oku_195⟩, List.forall_mem_cons.mpr ⟨⟨okw_196, oku_196⟩, List.forall_mem_cons.mpr ⟨⟨okw_197, oku_197⟩, List.forall_mem_cons.mpr ⟨⟨okw_198, oku_198⟩, List.forall_mem_cons.mpr ⟨⟨okw_199, oku_199⟩, List.forall_mem_cons.mpr ⟨⟨okw_200, oku_200⟩, List.forall_mem_cons.mpr ⟨⟨okw_201, oku_201⟩, List.forall_mem_cons.mpr ⟨⟨okw_202, oku_202⟩, List.forall_mem_cons.mpr ⟨⟨okw_203, oku_203⟩, List.forall_mem_cons.mpr ⟨⟨okw_204, oku_204⟩, List.forall_mem_cons.mpr ⟨⟨okw_205, oku_205⟩, List.forall_mem_cons.mpr ⟨⟨okw_206, oku_206⟩, List.forall_mem_cons.mpr ⟨⟨okw_207, oku_207⟩, List.forall_mem_cons.mpr ⟨⟨okw_208, oku_208⟩, List.forall_mem_cons.mpr ⟨⟨okw_209, oku_209⟩, List.forall_mem_cons.mpr ⟨⟨okw_210, oku_210⟩, List.forall_mem_cons.mpr ⟨⟨okw_211, oku_211⟩, List.forall_mem_cons.mpr ⟨⟨okw_212, oku_212⟩, List.forall_mem_cons.mpr ⟨⟨okw_213, oku_213⟩, List.forall_mem_cons.mpr ⟨⟨okw_214, oku_214⟩, List.forall_mem_cons.mpr ⟨⟨okw_215, oku_215⟩, List.forall_mem_cons.mpr ⟨⟨okw_216, oku_216⟩, List.forall_mem_cons.mpr ⟨⟨okw_217, oku_217⟩, List.forall_mem_cons.mpr ⟨⟨okw_218, oku_218⟩, List.forall_mem_cons.mpr ⟨⟨okw_219, oku_219⟩, List.forall_mem_cons.mpr ⟨⟨okw_220, oku_220⟩, List.forall_mem_cons.mpr ⟨⟨okw_221, oku_221⟩, List.forall_mem_cons.mpr ⟨⟨okw_222, oku_222⟩, List.forall_mem_cons.mpr ⟨⟨okw_223, oku_223⟩, fun _ h => absurd h List.not_mem_nil⟩⟩⟩⟩⟩⟩⟩⟩⟩⟩⟩⟩⟩⟩⟩⟩⟩⟩⟩⟩⟩⟩⟩⟩⟩⟩⟩⟩⟩⟩⟩⟩
theorem okw_224 : okW mt_224 := by unfold okW; decide +kernel
set_option maxRecDepth 40000 in
theorem oku_224 : okU mt_224 := by unfold okU; rfl
theorem okw_225 : okW mt_225 := by unfold okW; decide +kernel
set_option maxRecDepth 40000 in
theorem oku_225 : okU mt_225 := by unfold okU; rfl
theorem okw_226 : okW mt_226 := by unfold okW; decide +kernel
set_option maxRecDepth 40000 in
theorem oku_226 : okU mt_226 := by unfold okU; rfl
theorem okw_227 : okW mt_227 := by unfold okW; decide +kernel
set_option maxRecDepth 40000 in
theorem oku_227 : okU mt_227 := by unfold okU; rfl
theorem okw_228 : okW mt_228 := by unfold okW; decide +kernel
set_option maxRecDepth 40000 in
theorem oku_228 : okU mt_228 := by unfold okU; rfl
theorem okw_229 : okW mt_229 := by unfold okW; decide +kernel
set_option maxRecDepth 40000 in
theorem oku_229 : okU mt_229 := by unfold okU; rfl
theorem okw_230 : okW mt_230 := by unfold okW; decide +kernel
set_option maxRecDepth 40000 in
theorem oku_230 : okU mt_230 := by unfold okU; rfl
theorem okw_231 : okW mt_231 := by unfold okW; decide +kernel
set_option maxRecDepth 40000 in
theorem oku_231 : okU mt_231 := by unfold okU; rfl
theorem okw_232 : okW mt_232 := by unfold okW; decide +kernel
set_option maxRecDepth 40000 in
theorem oku_232 : okU mt_232 := by unfold okU; rfl
theorem okw_233 : okW mt_233 := by unfold okW; decide +kernel
set_option maxRecDepth 40000 in
theorem oku_233 : okU mt_233 := by unfold okU; rfl
theorem okw_234 : okW mt_234 := by unfold okW; decide +kernel
set_option maxRecDepth 40000 in
theorem oku_234 : okU mt_234 := by unfold okU; rfl
theorem okw_235 : okW mt_235 := by unfold okW; decide +kernel
set_option maxRecDepth 40000 in
theorem oku_235 : okU mt_235 := by unfold okU; rfl
theorem okw_236 : okW mt_236 := by unfold okW; decide +kernel
set_option maxRecDepth 40000 in
theorem oku_236 : okU mt_236 := by unfold okU; rfl
theorem okw_237 : okW mt_237 := by unfold okW; decide +kernel
set_option maxRecDepth 40000 in
theorem oku_237 : okU mt_237 := by unfold okU; rfl
theorem okw_238 : okW mt_238 := by unfold okW; decide +kernel
set_option maxRecDepth 40000 in
theorem oku_238 : okU mt_238 := by unfold okU; rfl
theorem okw_239 : okW mt_239 := by unfold okW; decide +kernel
set_option maxRecDepth 40000 in
theorem oku_239 : okU mt_239 := by unfold okU; rfl
theorem okw_240 : okW mt_240 := by unfold okW; decide +kernel
set_option maxRecDepth 40000 in
theorem oku_240 : okU mt_240 := by unfold okU; rfl
theorem okw_241 : okW mt_241 := by unfold okW; decide +kernel
set_option maxRecDepth 40000 in
theorem oku_241 : okU mt_241 := by unfold okU; rfl
theorem okw_242 : okW mt_242 := by unfold okW; decide +kernel
set_option maxRecDepth 40000 in
theorem oku_242 : okU mt_242 := by unfold okU; rfl
theorem okw_243 : okW mt_243 := by unfold okW; decide +kernel
set_option maxRecDepth 40000 in
theorem oku_243 : okU mt_243 := by unfold okU; rfl
theorem okw_244 : okW mt_244 := by unfold okW; decide +kernel
set_option maxRecDepth 40000 in
theorem oku_244 : okU mt_244 := by unfold okU; rfl
theorem okw_245 : okW mt_245 := by unfold okW; decide +kernel
set_option maxRecDepth 40000 in
theorem oku_245 : okU mt_245 := by unfold okU; rfl
theorem okw_246 : okW mt_246 := by unfold okW; decide +kernel
set_option maxRecDepth 40000 in
theorem oku_246 : okU mt_246 := by unfold okU; rfl
theorem okw_247 : okW mt_247 := by unfold okW; decide +kernel
set_option maxRecDepth 40000 in
theorem oku_247 : okU mt_247 := by unfold okU; rfl
theorem okw_248 : okW mt_248 := by unfold okW; decide +kernel
set_option maxRecDepth 40000 in
theorem oku_248 : okU mt_248 := by unfold okU; rfl
theorem okw_249 : okW mt_249 := by unfold okW; decide +kernel
set_option maxRecDepth 40000 in
theorem oku_249 : okU mt_249 := by unfold okU; rfl
theorem okw_250 : okW mt_250 := by unfold okW; decide +kernel
set_option maxRecDepth 40000 in
theorem oku_250 : okU mt_250 := by unfold okU; rfl
theorem okw_251 : okW mt_251 := by unfold okW; decide +kernel
set_option maxRecDepth 40000 in
theorem oku_251 : okU mt_251 := by unfold okU; rfl
theorem okw_252 : okW mt_252 := by unfold okW; decide +kernel
set_option maxRecDepth 40000 in
theorem oku_252 : okU mt_252 := by unfold okU; rfl
theorem okw_253 : okW mt_253 := by unfold okW; decide +kernel
set_option maxRecDepth 40000 in
theorem oku_253 : okU mt_253 := by unfold okU; rfl
theorem okw_254 : okW mt_254 := by unfold okW; decide +kernel
set_option maxRecDepth 40000 in
theorem oku_254 : okU mt_254 := by unfold okU; rfl
theorem okw_255 : okW mt_255 := by unfold okW; decide +kernel
set_option maxRecDepth 40000 in
theorem oku_255 : okU mt_255 := by unfold okU; rfl
theorem OKW_7 : ∀ e ∈ MTL_7, okW e ∧ okU e := List.forall_mem_cons.mpr ⟨⟨okw_224, oku_224⟩, List.forall_mem_cons.mpr ⟨⟨okw_225, oku_225⟩, List.forall_mem_cons.mpr ⟨⟨okw_226, oku_226⟩, List.forall_mem_cons.mpr ⟨⟨okw_227, oku_227⟩, List.forall_mem_cons.mpr ⟨⟨okw_228, oku_228⟩, List.forall_mem_cons.mpr ⟨⟨okw_229, oku_229⟩, List.forall_mem_cons.mpr ⟨⟨okw_230, oku_230⟩, List.forall_mem_cons.mpr ⟨⟨okw_231, oku_231⟩, List.forall_mem_cons.mpr ⟨⟨okw_232, oku_232⟩, List.forall_mem_cons.mpr ⟨⟨okw_233, oku_233⟩, List.forall_mem_cons.mpr ⟨⟨okw_234, oku_234⟩, List.forall_mem_cons.mpr ⟨⟨okw_235, oku_235⟩, List.forall_mem_cons.mpr ⟨⟨okw_236, oku_236⟩, List.forall_mem_cons.mpr ⟨⟨okw_237, oku_237⟩, List.forall_mem_cons.mpr ⟨⟨okw_238, oku_238⟩, List.forall_mem_cons.mpr ⟨⟨okw_239, oku_239⟩, List.forall_mem_cons.mpr ⟨⟨okw_240, oku_240⟩, List.forall_mem_cons.mpr ⟨⟨okw_241, oku_241⟩, List.forall_mem_cons.mpr ⟨⟨okw_242, oku_242⟩, List.forall_mem_cons.mpr ⟨⟨okw_243, oku_243⟩, List.forall_mem_cons.mpr ⟨⟨okw_244, oku_244⟩, List.forall_mem_cons.mpr ⟨⟨okw_245, oku_245⟩, List.forall_mem_cons.mpr ⟨⟨okw_246, oku_246⟩, List.forall_mem_cons.mpr ⟨⟨okw_247, oku_247⟩, List.forall_mem_cons.mpr ⟨⟨okw_248, oku_248⟩, List.forall_mem_cons.mpr ⟨⟨okw_249, oku_249⟩, List.forall_mem_cons.mpr ⟨⟨okw_250, oku_250⟩, List.forall_mem_cons.mpr ⟨⟨okw_251, oku_251⟩, List.forall_mem_cons.mpr ⟨⟨okw_252, oku_252⟩, List.forall_mem_cons.mpr ⟨⟨okw_253, oku_253⟩, List.forall_mem_cons.mpr ⟨⟨okw_254, oku_254⟩, List.forall_mem_cons.mpr ⟨⟨okw_255, oku_255⟩, fun _ h => absurd h List.not_mem_nil⟩⟩⟩⟩⟩⟩⟩⟩⟩⟩⟩⟩⟩⟩⟩⟩⟩⟩⟩⟩⟩⟩⟩⟩⟩⟩⟩⟩⟩⟩⟩⟩
theorem okw_256 : okW mt_256 := by unfold okW; decide +kernel
set_option maxRecDepth 40000 in
theorem oku_256 : okU mt_256 := by unfold okU; rfl
theorem okw_257 : okW mt_257 := by unfold okW; decide +kernel
set_option maxRecDepth 40000 in
theorem oku_257 : okU mt_257 := by unfold okU; rfl
theorem okw_258 : okW mt_258 := by unfold okW; decide +kernel
set_option maxRecDepth 40000 in
theorem oku_258 : okU mt_258 := by unfold okU; rfl
theorem okw_259 : okW mt_259 := by unfold okW; decide +kernel
set_option maxRecDepth 40000 in
theorem oku_259 : okU mt_259 := by unfold okU; rfl
theorem okw_260 : okW mt_260 := by unfold okW; decide +kernel
set_option maxRecDepth 40000 in
theorem oku_260 : okU mt_260 := by unfold okU; rfl
theorem okw_261 : okW mt_261 := by unfold okW; decide +kernel
set_option maxRecDepth 40000 in
theorem oku_261 : okU mt_261 := by unfold okU; rfl
theorem okw_262 : okW mt_262 := by unfold okW; decide +kernel
set_option maxRecDepth 40000 in
theorem oku_262 : okU mt_262 := by unfold okU; rfl
theorem okw_263 : okW mt_263 := by unfold okW; decide +kernel
set_option maxRecDepth 40000 in
theorem oku_263 : okU mt_263 := by unfold okU; rfl
theorem okw_264 : okW mt_264 := by unfold okW; decide +kernel
set_option maxRecDepth 40000 in
theorem oku_264 : okU mt_264 := by unfold okU; rfl
theorem okw_265 : okW mt_265 := by unfold okW; decide +kernel
set_option maxRecDepth 40000 in
theorem oku_265 : okU mt_265 := by unfold okU; rfl
theorem okw_266 : okW mt_266 := by unfold okW; decide +kernel
set_option maxRecDepth 40000 in
theorem oku_266 : okU mt_266 := by unfold okU; rfl
theorem okw_267 : okW mt_267 := by unfold okW; decide +kernel
set_option maxRecDepth 40000 in
theorem oku_267 : okU mt_267 := by unfold okU; rfl
theorem okw_268 : okW mt_268 := by unfold okW; decide +kernel
set_option maxRecDepth 40000 in
theorem oku_268 : okU mt_268 := by unfold okU; rfl
theorem okw_269 : okW mt_269 := by unfold okW; decide +kernel
set_option maxRecDepth 40000 in
theorem oku_269 : okU mt_269 := by unfold okU; rfl
theorem okw_270 : okW mt_270 := by unfold okW; decide +kernel
set_option maxRecDepth 40000 in
theorem oku_270 : okU mt_270 := by unfold okU; rfl
theorem okw_271 : okW mt_271 := by unfold okW; decide +kernel
set_option maxRecDepth 40000 in
theorem oku_271 : okU mt_271 := by unfold okU; rfl
theorem okw_272 : okW mt_272 := by unfold okW; decide +kernel
set_option maxRecDepth 40000 in
theorem oku_272 : okU mt_272 := by unfold okU; rfl
theorem okw_273 : okW mt_273 := by unfold okW; decide +kernel
set_option maxRecDepth 40000 in
theorem oku_273 : okU mt_273 := by unfold okU; rfl
theorem okw_274 : okW mt_274 := by unfold okW; decide +kernel
set_option maxRecDepth 40000 in
theorem oku_274 : okU mt_274 := by unfold okU; rfl
theorem okw_275 : okW mt_275 := by unfold okW; decide +kernel
set_option maxRecDepth 40000 in
theorem oku_275 : okU mt_275 := by unfold okU; rfl
theorem okw_276 : okW mt_276 := by unfold okW; decide +kernel
set_option maxRecDepth 40000 in
theorem oku_276 : okU mt_276 := by unfold okU; rfl
theorem okw_277 : okW mt_277 := by unfold okW; decide +kernel
set_option maxRecDepth 40000 in
theorem oku_277 : okU mt_277 := by unfold okU; rfl
theorem okw_278 : okW mt_278 := by unfold okW; decide +kernel
set_option maxRecDepth 40000 in
theorem oku_278 : okU mt_278 := by unfold okU; rfl
theorem okw_279 : okW mt_279 := by unfold okW; decide +kernel
set_option maxRecDepth 40000 in
theorem oku_279 : okU mt_279 := by unfold okU; rfl
theorem okw_280 : okW mt_280 := by unfold okW; decide +kernel
set_option maxRecDepth 40000 in
theorem oku_280 : okU mt_280 := by unfold okU; rfl
theorem okw_281 : okW mt_281 := by unfold okW; decide +kernel
set_option maxRecDepth 40000 in
theorem oku_281 : okU mt_281 := by unfold okU; rfl
theorem okw_282 : okW mt_282 := by unfold okW; decide +kernel
set_option maxRecDepth 40000 in
theorem oku_282 : okU mt_282 := by unfold okU; rfl
theorem okw_283 : okW mt_283 := by unfold okW; decide +kernel
set_option maxRecDepth 40000 in
theorem oku_283 : okU mt_283 := by unfold okU; rfl
theorem okw_284 : okW mt_284 := by unfold okW; decide +kernel
set_option maxRecDepth 40000 in
theorem oku_284 : okU mt_284 := by unfold okU; rfl
theorem okw_285 : okW mt_285 := by unfold okW; decide +kernel
set_option maxRecDepth 40000 in
theorem oku_285 : okU mt_285 := by unfold okU; rfl
theorem okw_286 : okW mt_286 := by unfold okW; decide +kernel
set_option maxRecDepth 40000 in
theorem oku_286 : okU mt_286 := by unfold okU; rfl
theorem okw_287 : okW mt_287 := by unfold okW; decide +kernel
set_option maxRecDepth 40000 in
theorem oku_287 : okU mt_287 := by unfold okU; rfl
theorem OKW_8 : ∀ e ∈ MTL_8, okW e ∧ okU e := List.forall_mem_cons.mpr ⟨⟨okw_256, oku_256⟩, List.forall_mem_cons.mpr ⟨⟨okw_257, oku_257⟩, List.forall_mem_cons.mpr ⟨⟨okw_258, oku_258⟩, List.forall_mem_cons.mpr ⟨⟨okw_259, oku_259⟩, List.forall_mem_cons.mpr ⟨⟨okw_260, oku_260⟩, List.forall_mem_cons.mpr ⟨⟨okw_261, oku_261⟩, List.forall_mem_cons.mpr ⟨⟨okw_262, oku_262⟩, List.forall_mem_cons.mpr ⟨⟨okw_263, oku_263⟩, List.forall_mem_cons.mpr ⟨⟨okw_264, oku_264⟩, List.forall_mem_cons.mpr ⟨⟨okw_265, oku_265⟩, List.forall_mem_cons.mpr ⟨⟨okw_266, oku_266⟩, List.forall_mem_cons.mpr ⟨⟨okw_267, oku_267⟩, List.forall_mem_cons.mpr ⟨⟨okw_268, oku_268⟩, List.forall_mem_cons.mpr ⟨⟨okw_269, oku_269⟩, List.forall_mem_cons.mpr ⟨⟨okw_270, oku_270⟩, List.forall_mem_cons.mpr ⟨⟨okw_271, oku_271⟩, List.forall_mem_cons.mpr ⟨⟨okw_272, oku_272⟩, List.forall_mem_cons.mpr ⟨⟨okw_273, oku_273⟩, List.forall_mem_cons.mpr ⟨⟨okw_274, oku_274⟩, List.forall_mem_cons.mpr ⟨⟨okw_275, oku_275⟩, List.forall_mem_cons.mpr ⟨⟨okw_276, oku_276⟩, List.forall_mem_cons.mpr ⟨⟨okw_277, oku_277⟩, List.forall_mem_cons.mpr ⟨⟨okw_278, oku_278⟩, List.forall_mem_cons.mpr ⟨⟨okw_279, oku_279⟩, List.forall_mem_cons.mpr ⟨⟨okw_280, oku_280⟩, List.forall_mem_cons.mpr ⟨⟨okw_281, oku_281⟩, List.forall_mem_cons.mpr ⟨⟨okw_282, oku_282⟩, List.forall_mem_cons.mpr ⟨⟨okw_283, oku_283⟩, List.forall_mem_cons.mpr ⟨⟨okw_284, oku_284⟩, List.forall_mem_cons.mpr ⟨⟨okw_285, oku_285⟩, List.forall_mem_cons.mpr ⟨⟨okw_286, oku_286⟩, List.forall_mem_cons.mpr ⟨⟨okw_287, oku_287⟩, fun _ h => absurd h List.not_mem_nil⟩⟩⟩⟩⟩⟩⟩⟩⟩⟩⟩⟩⟩⟩⟩⟩⟩⟩⟩⟩⟩⟩⟩⟩⟩⟩⟩⟩⟩⟩⟩⟩
