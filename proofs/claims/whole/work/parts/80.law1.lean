theorem iw_b01 (x : Int32) : iw_b x = 0 ∨ iw_b x = 1 := by
  unfold iw_b
  by_cases h : x = 0
  · exact Or.inl (if_pos h)
  · exact Or.inr (if_neg h)
set_option maxRecDepth 100000 in
set_option maxHeartbeats 4000000 in
theorem lw_c0 {l : Launch} {D : va_G} {cy : FieldType → ClassId} {ax am : Nat → Nat} {X : iw_X} {b L : Nat} {xs : Nat → Int32} {x3 : Int32} {zx zm : iw_M} (hC : iw_LC l D cy ax am X b L xs) (hr : iw_Rel zx zm) (hi : ∀ c : Int32, (c = 1 ∨ c = 2 ∨ c = 3 ∨ c = 4) → vp_in (x3 + c) L) (kk : ∀ zx zm : iw_M, iw_Rel zx zm → iw_L l D cy ax am X 1200 [(0, .ref b), (1, .ref (ax 0)), (2, .ref (am 0)), (3, .int x3)] [] zx zm) : iw_L l D cy ax am X 160 [(0, .ref b), (1, .ref (ax 0)), (2, .ref (am 0)), (3, .int x3)] [] zx zm := by
  obtain ⟨r, zx1, zm1, e1, e2, hr1⟩ := st_hand hr (xs (x3 + 1).toNatClampNeg) 
  refine L_aln hC dL_law_160 1 rfl ?_
  refine L_aln hC dL_law_161 0 rfl ?_
  refine L_iln hC dL_law_162 3 rfl ?_
  refine L_ic (x := 1) hC dL_law_163 (by decide) ?_
  refine L_iadd hC dL_law_164 ?_
  refine L_sld hC (hi 1 (Or.inl rfl)) dL_law_165 ?_
  refine L_cX [] hC cv_L_13 (kX8_hand (iw_GG l D cy ax) _ _) e1 rfl rfl (Nat.le_of_ble_eq_true rfl) ⟨by decide, by decide⟩ dL_law_166 ?_
  refine L_aln hC dL_law_169 2 rfl ?_
  refine L_aln hC dL_law_170 0 rfl ?_
  refine L_iln hC dL_law_171 3 rfl ?_
  refine L_ic (x := 1) hC dL_law_172 (by decide) ?_
  refine L_iadd hC dL_law_173 ?_
  refine L_sld hC (hi 1 (Or.inl rfl)) dL_law_174 ?_
  refine L_cM [.int _] hC cv_L_17 (kX9_hand (iw_GG l D cy am) _ _) e2 rfl rfl (Nat.le_of_ble_eq_true rfl) ⟨by decide, by decide⟩ dL_law_175 ?_
  refine L_eq 1200 hC dL_law_178 (by decide) ?_
  exact kk _ _ hr1
set_option maxRecDepth 100000 in
set_option maxHeartbeats 4000000 in
theorem lw_c1 {l : Launch} {D : va_G} {cy : FieldType → ClassId} {ax am : Nat → Nat} {X : iw_X} {b L : Nat} {xs : Nat → Int32} {x3 : Int32} {zx zm : iw_M} (hC : iw_LC l D cy ax am X b L xs) (hr : iw_Rel zx zm) (hi : ∀ c : Int32, (c = 1 ∨ c = 2 ∨ c = 3 ∨ c = 4) → vp_in (x3 + c) L) (kk : ∀ zx zm : iw_M, iw_Rel zx zm → iw_L l D cy ax am X 1200 [(0, .ref b), (1, .ref (ax 0)), (2, .ref (am 0)), (3, .int x3)] [] zx zm) : iw_L l D cy ax am X 183 [(0, .ref b), (1, .ref (ax 0)), (2, .ref (am 0)), (3, .int x3)] [] zx zm := by
  obtain ⟨r, zx1, zm1, e1, e2, hr1⟩ := st_kin hr (xs (x3 + 1).toNatClampNeg) (xs (x3 + 2).toNatClampNeg) (iw_b (xs (x3 + 3).toNatClampNeg)) (iw_b01 _)
  refine L_aln hC dL_law_183 1 rfl ?_
  refine L_aln hC dL_law_184 0 rfl ?_
  refine L_iln hC dL_law_185 3 rfl ?_
  refine L_ic (x := 1) hC dL_law_186 (by decide) ?_
  refine L_iadd hC dL_law_187 ?_
  refine L_sld hC (hi 1 (Or.inl rfl)) dL_law_188 ?_
  refine L_aln hC dL_law_189 0 rfl ?_
  refine L_iln hC dL_law_190 3 rfl ?_
  refine L_ic (x := 2) hC dL_law_191 (by decide) ?_
  refine L_iadd hC dL_law_192 ?_
  refine L_sld hC (hi 2 (Or.inr (Or.inl rfl))) dL_law_193 ?_
  refine L_aln hC dL_law_194 0 rfl ?_
  refine L_iln hC dL_law_195 3 rfl ?_
  refine L_ic (x := 3) hC dL_law_196 (by decide) ?_
  refine L_iadd hC dL_law_197 ?_
  refine L_sld hC (hi 3 (Or.inr (Or.inr (Or.inl rfl)))) dL_law_198 ?_
  refine L_bool hC dL_law_199 dL_law_202 dL_law_203 dL_law_206 ?_
  refine L_cX [] hC cv_L_18 (kX8_kin (iw_GG l D cy ax) _ _ _ _) e1 rfl rfl (Nat.le_of_ble_eq_true rfl) ⟨by decide, by decide⟩ dL_law_207 ?_
  refine L_aln hC dL_law_210 2 rfl ?_
  refine L_aln hC dL_law_211 0 rfl ?_
  refine L_iln hC dL_law_212 3 rfl ?_
  refine L_ic (x := 1) hC dL_law_213 (by decide) ?_
  refine L_iadd hC dL_law_214 ?_
  refine L_sld hC (hi 1 (Or.inl rfl)) dL_law_215 ?_
  refine L_aln hC dL_law_216 0 rfl ?_
  refine L_iln hC dL_law_217 3 rfl ?_
  refine L_ic (x := 2) hC dL_law_218 (by decide) ?_
  refine L_iadd hC dL_law_219 ?_
  refine L_sld hC (hi 2 (Or.inr (Or.inl rfl))) dL_law_220 ?_
  refine L_aln hC dL_law_221 0 rfl ?_
  refine L_iln hC dL_law_222 3 rfl ?_
  refine L_ic (x := 3) hC dL_law_223 (by decide) ?_
  refine L_iadd hC dL_law_224 ?_
  refine L_sld hC (hi 3 (Or.inr (Or.inr (Or.inl rfl)))) dL_law_225 ?_
  refine L_bool hC dL_law_226 dL_law_229 dL_law_230 dL_law_233 ?_
  refine L_cM [.int _] hC cv_L_22 (kX9_kin (iw_GG l D cy am) _ _ _ _) e2 rfl rfl (Nat.le_of_ble_eq_true rfl) ⟨by decide, by decide⟩ dL_law_234 ?_
  refine L_eq 1200 hC dL_law_237 (by decide) ?_
  exact kk _ _ hr1
set_option maxRecDepth 100000 in
set_option maxHeartbeats 4000000 in
theorem lw_c2 {l : Launch} {D : va_G} {cy : FieldType → ClassId} {ax am : Nat → Nat} {X : iw_X} {b L : Nat} {xs : Nat → Int32} {x3 : Int32} {zx zm : iw_M} (hC : iw_LC l D cy ax am X b L xs) (hr : iw_Rel zx zm) (hi : ∀ c : Int32, (c = 1 ∨ c = 2 ∨ c = 3 ∨ c = 4) → vp_in (x3 + c) L) (kk : ∀ zx zm : iw_M, iw_Rel zx zm → iw_L l D cy ax am X 1200 [(0, .ref b), (1, .ref (ax 0)), (2, .ref (am 0)), (3, .int x3)] [] zx zm) : iw_L l D cy ax am X 242 [(0, .ref b), (1, .ref (ax 0)), (2, .ref (am 0)), (3, .int x3)] [] zx zm := by
  obtain ⟨r, zx1, zm1, e1, e2, hr1⟩ := st_idea hr (xs (x3 + 1).toNatClampNeg) (xs (x3 + 2).toNatClampNeg) (xs (x3 + 3).toNatClampNeg) (xs (x3 + 4).toNatClampNeg) 
  refine L_aln hC dL_law_242 1 rfl ?_
  refine L_aln hC dL_law_243 0 rfl ?_
  refine L_iln hC dL_law_244 3 rfl ?_
  refine L_ic (x := 1) hC dL_law_245 (by decide) ?_
  refine L_iadd hC dL_law_246 ?_
  refine L_sld hC (hi 1 (Or.inl rfl)) dL_law_247 ?_
  refine L_aln hC dL_law_248 0 rfl ?_
  refine L_iln hC dL_law_249 3 rfl ?_
  refine L_ic (x := 2) hC dL_law_250 (by decide) ?_
  refine L_iadd hC dL_law_251 ?_
  refine L_sld hC (hi 2 (Or.inr (Or.inl rfl))) dL_law_252 ?_
  refine L_aln hC dL_law_253 0 rfl ?_
  refine L_iln hC dL_law_254 3 rfl ?_
  refine L_ic (x := 3) hC dL_law_255 (by decide) ?_
  refine L_iadd hC dL_law_256 ?_
  refine L_sld hC (hi 3 (Or.inr (Or.inr (Or.inl rfl)))) dL_law_257 ?_
  refine L_aln hC dL_law_258 0 rfl ?_
  refine L_iln hC dL_law_259 3 rfl ?_
  refine L_ic (x := 4) hC dL_law_260 (by decide) ?_
  refine L_iadd hC dL_law_261 ?_
  refine L_sld hC (hi 4 (Or.inr (Or.inr (Or.inr rfl)))) dL_law_262 ?_
  refine L_cX [] hC cv_L_23 (kX8_idea (iw_GG l D cy ax) _ _ _ _ _) e1 rfl rfl (Nat.le_of_ble_eq_true rfl) ⟨by decide, by decide⟩ dL_law_263 ?_
  refine L_aln hC dL_law_266 2 rfl ?_
  refine L_aln hC dL_law_267 0 rfl ?_
  refine L_iln hC dL_law_268 3 rfl ?_
  refine L_ic (x := 1) hC dL_law_269 (by decide) ?_
  refine L_iadd hC dL_law_270 ?_
  refine L_sld hC (hi 1 (Or.inl rfl)) dL_law_271 ?_
  refine L_aln hC dL_law_272 0 rfl ?_
  refine L_iln hC dL_law_273 3 rfl ?_
  refine L_ic (x := 2) hC dL_law_274 (by decide) ?_
  refine L_iadd hC dL_law_275 ?_
  refine L_sld hC (hi 2 (Or.inr (Or.inl rfl))) dL_law_276 ?_
  refine L_aln hC dL_law_277 0 rfl ?_
  refine L_iln hC dL_law_278 3 rfl ?_
  refine L_ic (x := 3) hC dL_law_279 (by decide) ?_
  refine L_iadd hC dL_law_280 ?_
  refine L_sld hC (hi 3 (Or.inr (Or.inr (Or.inl rfl)))) dL_law_281 ?_
  refine L_aln hC dL_law_282 0 rfl ?_
  refine L_iln hC dL_law_283 3 rfl ?_
  refine L_ic (x := 4) hC dL_law_284 (by decide) ?_
  refine L_iadd hC dL_law_285 ?_
  refine L_sld hC (hi 4 (Or.inr (Or.inr (Or.inr rfl)))) dL_law_286 ?_
  refine L_cM [.int _] hC cv_L_27 (kX9_idea (iw_GG l D cy am) _ _ _ _ _) e2 rfl rfl (Nat.le_of_ble_eq_true rfl) ⟨by decide, by decide⟩ dL_law_287 ?_
  refine L_eq 1200 hC dL_law_290 (by decide) ?_
  exact kk _ _ hr1
set_option maxRecDepth 100000 in
set_option maxHeartbeats 4000000 in
theorem lw_c3 {l : Launch} {D : va_G} {cy : FieldType → ClassId} {ax am : Nat → Nat} {X : iw_X} {b L : Nat} {xs : Nat → Int32} {x3 : Int32} {zx zm : iw_M} (hC : iw_LC l D cy ax am X b L xs) (hr : iw_Rel zx zm) (hi : ∀ c : Int32, (c = 1 ∨ c = 2 ∨ c = 3 ∨ c = 4) → vp_in (x3 + c) L) (kk : ∀ zx zm : iw_M, iw_Rel zx zm → iw_L l D cy ax am X 1200 [(0, .ref b), (1, .ref (ax 0)), (2, .ref (am 0)), (3, .int x3)] [] zx zm) : iw_L l D cy ax am X 295 [(0, .ref b), (1, .ref (ax 0)), (2, .ref (am 0)), (3, .int x3)] [] zx zm := by
  obtain ⟨r, zx1, zm1, e1, e2, hr1⟩ := st_team hr (xs (x3 + 1).toNatClampNeg) (xs (x3 + 2).toNatClampNeg) 
  refine L_aln hC dL_law_295 1 rfl ?_
  refine L_aln hC dL_law_296 0 rfl ?_
  refine L_iln hC dL_law_297 3 rfl ?_
  refine L_ic (x := 1) hC dL_law_298 (by decide) ?_
  refine L_iadd hC dL_law_299 ?_
  refine L_sld hC (hi 1 (Or.inl rfl)) dL_law_300 ?_
  refine L_aln hC dL_law_301 0 rfl ?_
  refine L_iln hC dL_law_302 3 rfl ?_
  refine L_ic (x := 2) hC dL_law_303 (by decide) ?_
  refine L_iadd hC dL_law_304 ?_
  refine L_sld hC (hi 2 (Or.inr (Or.inl rfl))) dL_law_305 ?_
  refine L_cX [] hC cv_L_28 (kX8_team (iw_GG l D cy ax) _ _ _) e1 rfl rfl (Nat.le_of_ble_eq_true rfl) ⟨by decide, by decide⟩ dL_law_306 ?_
  refine L_aln hC dL_law_309 2 rfl ?_
  refine L_aln hC dL_law_310 0 rfl ?_
  refine L_iln hC dL_law_311 3 rfl ?_
  refine L_ic (x := 1) hC dL_law_312 (by decide) ?_
  refine L_iadd hC dL_law_313 ?_
  refine L_sld hC (hi 1 (Or.inl rfl)) dL_law_314 ?_
  refine L_aln hC dL_law_315 0 rfl ?_
  refine L_iln hC dL_law_316 3 rfl ?_
  refine L_ic (x := 2) hC dL_law_317 (by decide) ?_
  refine L_iadd hC dL_law_318 ?_
  refine L_sld hC (hi 2 (Or.inr (Or.inl rfl))) dL_law_319 ?_
  refine L_cM [.int _] hC cv_L_32 (kX9_team (iw_GG l D cy am) _ _ _) e2 rfl rfl (Nat.le_of_ble_eq_true rfl) ⟨by decide, by decide⟩ dL_law_320 ?_
  refine L_eq 1200 hC dL_law_323 (by decide) ?_
  exact kk _ _ hr1
set_option maxRecDepth 100000 in
set_option maxHeartbeats 4000000 in
theorem lw_c4 {l : Launch} {D : va_G} {cy : FieldType → ClassId} {ax am : Nat → Nat} {X : iw_X} {b L : Nat} {xs : Nat → Int32} {x3 : Int32} {zx zm : iw_M} (hC : iw_LC l D cy ax am X b L xs) (hr : iw_Rel zx zm) (hi : ∀ c : Int32, (c = 1 ∨ c = 2 ∨ c = 3 ∨ c = 4) → vp_in (x3 + c) L) (kk : ∀ zx zm : iw_M, iw_Rel zx zm → iw_L l D cy ax am X 1200 [(0, .ref b), (1, .ref (ax 0)), (2, .ref (am 0)), (3, .int x3)] [] zx zm) : iw_L l D cy ax am X 328 [(0, .ref b), (1, .ref (ax 0)), (2, .ref (am 0)), (3, .int x3)] [] zx zm := by
  obtain ⟨r, zx1, zm1, e1, e2, hr1⟩ := st_set hr (xs (x3 + 1).toNatClampNeg) (xs (x3 + 2).toNatClampNeg) 
  refine L_aln hC dL_law_328 1 rfl ?_
  refine L_aln hC dL_law_329 0 rfl ?_
  refine L_iln hC dL_law_330 3 rfl ?_
  refine L_ic (x := 1) hC dL_law_331 (by decide) ?_
  refine L_iadd hC dL_law_332 ?_
  refine L_sld hC (hi 1 (Or.inl rfl)) dL_law_333 ?_
  refine L_aln hC dL_law_334 0 rfl ?_
  refine L_iln hC dL_law_335 3 rfl ?_
  refine L_ic (x := 2) hC dL_law_336 (by decide) ?_
  refine L_iadd hC dL_law_337 ?_
  refine L_sld hC (hi 2 (Or.inr (Or.inl rfl))) dL_law_338 ?_
  refine L_cX [] hC cv_L_33 (kX8_set (iw_GG l D cy ax) _ _ _) e1 rfl rfl (Nat.le_of_ble_eq_true rfl) ⟨by decide, by decide⟩ dL_law_339 ?_
  refine L_aln hC dL_law_342 2 rfl ?_
  refine L_aln hC dL_law_343 0 rfl ?_
  refine L_iln hC dL_law_344 3 rfl ?_
  refine L_ic (x := 1) hC dL_law_345 (by decide) ?_
  refine L_iadd hC dL_law_346 ?_
  refine L_sld hC (hi 1 (Or.inl rfl)) dL_law_347 ?_
  refine L_aln hC dL_law_348 0 rfl ?_
  refine L_iln hC dL_law_349 3 rfl ?_
  refine L_ic (x := 2) hC dL_law_350 (by decide) ?_
  refine L_iadd hC dL_law_351 ?_
  refine L_sld hC (hi 2 (Or.inr (Or.inl rfl))) dL_law_352 ?_
  refine L_cM [.int _] hC cv_L_36 (kX9_set (iw_GG l D cy am) _ _ _) e2 rfl rfl (Nat.le_of_ble_eq_true rfl) ⟨by decide, by decide⟩ dL_law_353 ?_
  refine L_eq 1200 hC dL_law_356 (by decide) ?_
  exact kk _ _ hr1
set_option maxRecDepth 100000 in
set_option maxHeartbeats 4000000 in
theorem lw_c5 {l : Launch} {D : va_G} {cy : FieldType → ClassId} {ax am : Nat → Nat} {X : iw_X} {b L : Nat} {xs : Nat → Int32} {x3 : Int32} {zx zm : iw_M} (hC : iw_LC l D cy ax am X b L xs) (hr : iw_Rel zx zm) (hi : ∀ c : Int32, (c = 1 ∨ c = 2 ∨ c = 3 ∨ c = 4) → vp_in (x3 + c) L) (kk : ∀ zx zm : iw_M, iw_Rel zx zm → iw_L l D cy ax am X 1200 [(0, .ref b), (1, .ref (ax 0)), (2, .ref (am 0)), (3, .int x3)] [] zx zm) : iw_L l D cy ax am X 361 [(0, .ref b), (1, .ref (ax 0)), (2, .ref (am 0)), (3, .int x3)] [] zx zm := by
  obtain ⟨r, zx1, zm1, e1, e2, hr1⟩ := st_like hr (xs (x3 + 1).toNatClampNeg) (xs (x3 + 2).toNatClampNeg) 
  refine L_aln hC dL_law_361 1 rfl ?_
  refine L_aln hC dL_law_362 0 rfl ?_
  refine L_iln hC dL_law_363 3 rfl ?_
  refine L_ic (x := 1) hC dL_law_364 (by decide) ?_
  refine L_iadd hC dL_law_365 ?_
  refine L_sld hC (hi 1 (Or.inl rfl)) dL_law_366 ?_
  refine L_aln hC dL_law_367 0 rfl ?_
  refine L_iln hC dL_law_368 3 rfl ?_
  refine L_ic (x := 2) hC dL_law_369 (by decide) ?_
  refine L_iadd hC dL_law_370 ?_
  refine L_sld hC (hi 2 (Or.inr (Or.inl rfl))) dL_law_371 ?_
  refine L_cX [] hC cv_L_37 (kX8_like (iw_GG l D cy ax) _ _ _) e1 rfl rfl (Nat.le_of_ble_eq_true rfl) ⟨by decide, by decide⟩ dL_law_372 ?_
  refine L_aln hC dL_law_375 2 rfl ?_
  refine L_aln hC dL_law_376 0 rfl ?_
  refine L_iln hC dL_law_377 3 rfl ?_
  refine L_ic (x := 1) hC dL_law_378 (by decide) ?_
  refine L_iadd hC dL_law_379 ?_
  refine L_sld hC (hi 1 (Or.inl rfl)) dL_law_380 ?_
  refine L_aln hC dL_law_381 0 rfl ?_
  refine L_iln hC dL_law_382 3 rfl ?_
  refine L_ic (x := 2) hC dL_law_383 (by decide) ?_
  refine L_iadd hC dL_law_384 ?_
  refine L_sld hC (hi 2 (Or.inr (Or.inl rfl))) dL_law_385 ?_
  refine L_cM [.int _] hC cv_L_40 (kX9_like (iw_GG l D cy am) _ _ _) e2 rfl rfl (Nat.le_of_ble_eq_true rfl) ⟨by decide, by decide⟩ dL_law_386 ?_
  refine L_eq 1200 hC dL_law_389 (by decide) ?_
  exact kk _ _ hr1
set_option maxRecDepth 100000 in
set_option maxHeartbeats 4000000 in
theorem lw_c6 {l : Launch} {D : va_G} {cy : FieldType → ClassId} {ax am : Nat → Nat} {X : iw_X} {b L : Nat} {xs : Nat → Int32} {x3 : Int32} {zx zm : iw_M} (hC : iw_LC l D cy ax am X b L xs) (hr : iw_Rel zx zm) (hi : ∀ c : Int32, (c = 1 ∨ c = 2 ∨ c = 3 ∨ c = 4) → vp_in (x3 + c) L) (kk : ∀ zx zm : iw_M, iw_Rel zx zm → iw_L l D cy ax am X 1200 [(0, .ref b), (1, .ref (ax 0)), (2, .ref (am 0)), (3, .int x3)] [] zx zm) : iw_L l D cy ax am X 394 [(0, .ref b), (1, .ref (ax 0)), (2, .ref (am 0)), (3, .int x3)] [] zx zm := by
  obtain ⟨r, zx1, zm1, e1, e2, hr1⟩ := st_family hr (xs (x3 + 1).toNatClampNeg) 
  refine L_aln hC dL_law_394 1 rfl ?_
  refine L_aln hC dL_law_395 0 rfl ?_
  refine L_iln hC dL_law_396 3 rfl ?_
  refine L_ic (x := 1) hC dL_law_397 (by decide) ?_
  refine L_iadd hC dL_law_398 ?_
  refine L_sld hC (hi 1 (Or.inl rfl)) dL_law_399 ?_
  refine L_cX [] hC cv_L_41 (kX8_family (iw_GG l D cy ax) _ _) e1 rfl rfl (Nat.le_of_ble_eq_true rfl) ⟨by decide, by decide⟩ dL_law_400 ?_
  refine L_aln hC dL_law_403 2 rfl ?_
  refine L_aln hC dL_law_404 0 rfl ?_
  refine L_iln hC dL_law_405 3 rfl ?_
  refine L_ic (x := 1) hC dL_law_406 (by decide) ?_
  refine L_iadd hC dL_law_407 ?_
  refine L_sld hC (hi 1 (Or.inl rfl)) dL_law_408 ?_
  refine L_cM [.int _] hC cv_L_44 (kX9_family (iw_GG l D cy am) _ _) e2 rfl rfl (Nat.le_of_ble_eq_true rfl) ⟨by decide, by decide⟩ dL_law_409 ?_
  refine L_eq 1200 hC dL_law_412 (by decide) ?_
  exact kk _ _ hr1
set_option maxRecDepth 100000 in
set_option maxHeartbeats 4000000 in
theorem lw_c7 {l : Launch} {D : va_G} {cy : FieldType → ClassId} {ax am : Nat → Nat} {X : iw_X} {b L : Nat} {xs : Nat → Int32} {x3 : Int32} {zx zm : iw_M} (hC : iw_LC l D cy ax am X b L xs) (hr : iw_Rel zx zm) (hi : ∀ c : Int32, (c = 1 ∨ c = 2 ∨ c = 3 ∨ c = 4) → vp_in (x3 + c) L) (kk : ∀ zx zm : iw_M, iw_Rel zx zm → iw_L l D cy ax am X 1200 [(0, .ref b), (1, .ref (ax 0)), (2, .ref (am 0)), (3, .int x3)] [] zx zm) : iw_L l D cy ax am X 417 [(0, .ref b), (1, .ref (ax 0)), (2, .ref (am 0)), (3, .int x3)] [] zx zm := by
  obtain ⟨r, zx1, zm1, e1, e2, hr1⟩ := st_head hr (xs (x3 + 1).toNatClampNeg) 
  refine L_aln hC dL_law_417 1 rfl ?_
  refine L_aln hC dL_law_418 0 rfl ?_
  refine L_iln hC dL_law_419 3 rfl ?_
  refine L_ic (x := 1) hC dL_law_420 (by decide) ?_
  refine L_iadd hC dL_law_421 ?_
  refine L_sld hC (hi 1 (Or.inl rfl)) dL_law_422 ?_
  refine L_cX [] hC cv_L_45 (kX8_head (iw_GG l D cy ax) _ _) e1 rfl rfl (Nat.le_of_ble_eq_true rfl) ⟨by decide, by decide⟩ dL_law_423 ?_
  refine L_aln hC dL_law_426 2 rfl ?_
  refine L_aln hC dL_law_427 0 rfl ?_
  refine L_iln hC dL_law_428 3 rfl ?_
  refine L_ic (x := 1) hC dL_law_429 (by decide) ?_
  refine L_iadd hC dL_law_430 ?_
  refine L_sld hC (hi 1 (Or.inl rfl)) dL_law_431 ?_
  refine L_cM [.int _] hC cv_L_48 (kX9_head (iw_GG l D cy am) _ _) e2 rfl rfl (Nat.le_of_ble_eq_true rfl) ⟨by decide, by decide⟩ dL_law_432 ?_
  refine L_eq 1200 hC dL_law_435 (by decide) ?_
  exact kk _ _ hr1
set_option maxRecDepth 100000 in
set_option maxHeartbeats 4000000 in
theorem lw_c8 {l : Launch} {D : va_G} {cy : FieldType → ClassId} {ax am : Nat → Nat} {X : iw_X} {b L : Nat} {xs : Nat → Int32} {x3 : Int32} {zx zm : iw_M} (hC : iw_LC l D cy ax am X b L xs) (hr : iw_Rel zx zm) (hi : ∀ c : Int32, (c = 1 ∨ c = 2 ∨ c = 3 ∨ c = 4) → vp_in (x3 + c) L) (kk : ∀ zx zm : iw_M, iw_Rel zx zm → iw_L l D cy ax am X 1200 [(0, .ref b), (1, .ref (ax 0)), (2, .ref (am 0)), (3, .int x3)] [] zx zm) : iw_L l D cy ax am X 440 [(0, .ref b), (1, .ref (ax 0)), (2, .ref (am 0)), (3, .int x3)] [] zx zm := by
  obtain ⟨r, zx1, zm1, e1, e2, hr1⟩ := st_share hr (xs (x3 + 1).toNatClampNeg) 
  refine L_aln hC dL_law_440 1 rfl ?_
  refine L_aln hC dL_law_441 0 rfl ?_
  refine L_iln hC dL_law_442 3 rfl ?_
  refine L_ic (x := 1) hC dL_law_443 (by decide) ?_
  refine L_iadd hC dL_law_444 ?_
  refine L_sld hC (hi 1 (Or.inl rfl)) dL_law_445 ?_
  refine L_cX [] hC cv_L_49 (kX8_share (iw_GG l D cy ax) _ _) e1 rfl rfl (Nat.le_of_ble_eq_true rfl) ⟨by decide, by decide⟩ dL_law_446 ?_
  refine L_aln hC dL_law_449 2 rfl ?_
  refine L_aln hC dL_law_450 0 rfl ?_
  refine L_iln hC dL_law_451 3 rfl ?_
  refine L_ic (x := 1) hC dL_law_452 (by decide) ?_
  refine L_iadd hC dL_law_453 ?_
  refine L_sld hC (hi 1 (Or.inl rfl)) dL_law_454 ?_
  refine L_cM [.int _] hC cv_L_52 (kX9_share (iw_GG l D cy am) _ _) e2 rfl rfl (Nat.le_of_ble_eq_true rfl) ⟨by decide, by decide⟩ dL_law_455 ?_
  refine L_eq 1200 hC dL_law_458 (by decide) ?_
  exact kk _ _ hr1
set_option maxRecDepth 100000 in
set_option maxHeartbeats 4000000 in
theorem lw_c9 {l : Launch} {D : va_G} {cy : FieldType → ClassId} {ax am : Nat → Nat} {X : iw_X} {b L : Nat} {xs : Nat → Int32} {x3 : Int32} {zx zm : iw_M} (hC : iw_LC l D cy ax am X b L xs) (hr : iw_Rel zx zm) (hi : ∀ c : Int32, (c = 1 ∨ c = 2 ∨ c = 3 ∨ c = 4) → vp_in (x3 + c) L) (kk : ∀ zx zm : iw_M, iw_Rel zx zm → iw_L l D cy ax am X 1200 [(0, .ref b), (1, .ref (ax 0)), (2, .ref (am 0)), (3, .int x3)] [] zx zm) : iw_L l D cy ax am X 463 [(0, .ref b), (1, .ref (ax 0)), (2, .ref (am 0)), (3, .int x3)] [] zx zm := by
  obtain ⟨r, zx1, zm1, e1, e2, hr1⟩ := st_judge hr (xs (x3 + 1).toNatClampNeg) (iw_b (xs (x3 + 2).toNatClampNeg)) (iw_b01 _)
  refine L_aln hC dL_law_463 1 rfl ?_
  refine L_aln hC dL_law_464 0 rfl ?_
  refine L_iln hC dL_law_465 3 rfl ?_
  refine L_ic (x := 1) hC dL_law_466 (by decide) ?_
  refine L_iadd hC dL_law_467 ?_
  refine L_sld hC (hi 1 (Or.inl rfl)) dL_law_468 ?_
  refine L_aln hC dL_law_469 0 rfl ?_
  refine L_iln hC dL_law_470 3 rfl ?_
  refine L_ic (x := 2) hC dL_law_471 (by decide) ?_
  refine L_iadd hC dL_law_472 ?_
  refine L_sld hC (hi 2 (Or.inr (Or.inl rfl))) dL_law_473 ?_
  refine L_bool hC dL_law_474 dL_law_477 dL_law_478 dL_law_481 ?_
  refine L_cX [] hC cv_L_53 (kX8_judge (iw_GG l D cy ax) _ _ _) e1 rfl rfl (Nat.le_of_ble_eq_true rfl) ⟨by decide, by decide⟩ dL_law_482 ?_
  refine L_aln hC dL_law_485 2 rfl ?_
  refine L_aln hC dL_law_486 0 rfl ?_
  refine L_iln hC dL_law_487 3 rfl ?_
  refine L_ic (x := 1) hC dL_law_488 (by decide) ?_
  refine L_iadd hC dL_law_489 ?_
  refine L_sld hC (hi 1 (Or.inl rfl)) dL_law_490 ?_
  refine L_aln hC dL_law_491 0 rfl ?_
  refine L_iln hC dL_law_492 3 rfl ?_
  refine L_ic (x := 2) hC dL_law_493 (by decide) ?_
  refine L_iadd hC dL_law_494 ?_
  refine L_sld hC (hi 2 (Or.inr (Or.inl rfl))) dL_law_495 ?_
  refine L_bool hC dL_law_496 dL_law_499 dL_law_500 dL_law_503 ?_
  refine L_cM [.int _] hC cv_L_57 (kX9_judge (iw_GG l D cy am) _ _ _) e2 rfl rfl (Nat.le_of_ble_eq_true rfl) ⟨by decide, by decide⟩ dL_law_504 ?_
  refine L_eq 1200 hC dL_law_507 (by decide) ?_
  exact kk _ _ hr1
set_option maxRecDepth 100000 in
set_option maxHeartbeats 4000000 in
theorem lw_c10 {l : Launch} {D : va_G} {cy : FieldType → ClassId} {ax am : Nat → Nat} {X : iw_X} {b L : Nat} {xs : Nat → Int32} {x3 : Int32} {zx zm : iw_M} (hC : iw_LC l D cy ax am X b L xs) (hr : iw_Rel zx zm) (hi : ∀ c : Int32, (c = 1 ∨ c = 2 ∨ c = 3 ∨ c = 4) → vp_in (x3 + c) L) (kk : ∀ zx zm : iw_M, iw_Rel zx zm → iw_L l D cy ax am X 1200 [(0, .ref b), (1, .ref (ax 0)), (2, .ref (am 0)), (3, .int x3)] [] zx zm) : iw_L l D cy ax am X 512 [(0, .ref b), (1, .ref (ax 0)), (2, .ref (am 0)), (3, .int x3)] [] zx zm := by
  obtain ⟨r, zx1, zm1, e1, e2, hr1⟩ := st_may hr (xs (x3 + 1).toNatClampNeg) (xs (x3 + 2).toNatClampNeg) 
  refine L_aln hC dL_law_512 1 rfl ?_
  refine L_aln hC dL_law_513 0 rfl ?_
  refine L_iln hC dL_law_514 3 rfl ?_
  refine L_ic (x := 1) hC dL_law_515 (by decide) ?_
  refine L_iadd hC dL_law_516 ?_
  refine L_sld hC (hi 1 (Or.inl rfl)) dL_law_517 ?_
  refine L_aln hC dL_law_518 0 rfl ?_
  refine L_iln hC dL_law_519 3 rfl ?_
  refine L_ic (x := 2) hC dL_law_520 (by decide) ?_
  refine L_iadd hC dL_law_521 ?_
  refine L_sld hC (hi 2 (Or.inr (Or.inl rfl))) dL_law_522 ?_
  refine L_cX [] hC cv_L_58 (kX8_may (iw_GG l D cy ax) _ _ _) e1 rfl rfl (Nat.le_of_ble_eq_true rfl) ⟨by decide, by decide⟩ dL_law_523 ?_
  refine L_aln hC dL_law_526 2 rfl ?_
  refine L_aln hC dL_law_527 0 rfl ?_
  refine L_iln hC dL_law_528 3 rfl ?_
  refine L_ic (x := 1) hC dL_law_529 (by decide) ?_
  refine L_iadd hC dL_law_530 ?_
  refine L_sld hC (hi 1 (Or.inl rfl)) dL_law_531 ?_
  refine L_aln hC dL_law_532 0 rfl ?_
  refine L_iln hC dL_law_533 3 rfl ?_
  refine L_ic (x := 2) hC dL_law_534 (by decide) ?_
  refine L_iadd hC dL_law_535 ?_
  refine L_sld hC (hi 2 (Or.inr (Or.inl rfl))) dL_law_536 ?_
  refine L_cM [.int _] hC cv_L_61 (kX9_may (iw_GG l D cy am) _ _ _) e2 rfl rfl (Nat.le_of_ble_eq_true rfl) ⟨by decide, by decide⟩ dL_law_537 ?_
  refine L_eq 1200 hC dL_law_540 (by decide) ?_
  exact kk _ _ hr1
set_option maxRecDepth 100000 in
set_option maxHeartbeats 4000000 in
theorem lw_c11 {l : Launch} {D : va_G} {cy : FieldType → ClassId} {ax am : Nat → Nat} {X : iw_X} {b L : Nat} {xs : Nat → Int32} {x3 : Int32} {zx zm : iw_M} (hC : iw_LC l D cy ax am X b L xs) (hr : iw_Rel zx zm) (hi : ∀ c : Int32, (c = 1 ∨ c = 2 ∨ c = 3 ∨ c = 4) → vp_in (x3 + c) L) (kk : ∀ zx zm : iw_M, iw_Rel zx zm → iw_L l D cy ax am X 1200 [(0, .ref b), (1, .ref (ax 0)), (2, .ref (am 0)), (3, .int x3)] [] zx zm) : iw_L l D cy ax am X 545 [(0, .ref b), (1, .ref (ax 0)), (2, .ref (am 0)), (3, .int x3)] [] zx zm := by
  obtain ⟨r, zx1, zm1, e1, e2, hr1⟩ := st_judgeOf hr (xs (x3 + 1).toNatClampNeg) (xs (x3 + 2).toNatClampNeg) 
  refine L_aln hC dL_law_545 1 rfl ?_
  refine L_aln hC dL_law_546 0 rfl ?_
  refine L_iln hC dL_law_547 3 rfl ?_
  refine L_ic (x := 1) hC dL_law_548 (by decide) ?_
  refine L_iadd hC dL_law_549 ?_
  refine L_sld hC (hi 1 (Or.inl rfl)) dL_law_550 ?_
  refine L_aln hC dL_law_551 0 rfl ?_
  refine L_iln hC dL_law_552 3 rfl ?_
  refine L_ic (x := 2) hC dL_law_553 (by decide) ?_
  refine L_iadd hC dL_law_554 ?_
  refine L_sld hC (hi 2 (Or.inr (Or.inl rfl))) dL_law_555 ?_
  refine L_cX [] hC cv_L_62 (kX8_judgeOf (iw_GG l D cy ax) _ _ _) e1 rfl rfl (Nat.le_of_ble_eq_true rfl) ⟨by decide, by decide⟩ dL_law_556 ?_
  refine L_aln hC dL_law_559 2 rfl ?_
  refine L_aln hC dL_law_560 0 rfl ?_
  refine L_iln hC dL_law_561 3 rfl ?_
  refine L_ic (x := 1) hC dL_law_562 (by decide) ?_
  refine L_iadd hC dL_law_563 ?_
  refine L_sld hC (hi 1 (Or.inl rfl)) dL_law_564 ?_
  refine L_aln hC dL_law_565 0 rfl ?_
  refine L_iln hC dL_law_566 3 rfl ?_
  refine L_ic (x := 2) hC dL_law_567 (by decide) ?_
  refine L_iadd hC dL_law_568 ?_
  refine L_sld hC (hi 2 (Or.inr (Or.inl rfl))) dL_law_569 ?_
  refine L_cM [.int _] hC cv_L_65 (kX9_judgeOf (iw_GG l D cy am) _ _ _) e2 rfl rfl (Nat.le_of_ble_eq_true rfl) ⟨by decide, by decide⟩ dL_law_570 ?_
  refine L_eq 1200 hC dL_law_573 (by decide) ?_
  exact kk _ _ hr1
set_option maxRecDepth 100000 in
set_option maxHeartbeats 4000000 in
theorem lw_c12 {l : Launch} {D : va_G} {cy : FieldType → ClassId} {ax am : Nat → Nat} {X : iw_X} {b L : Nat} {xs : Nat → Int32} {x3 : Int32} {zx zm : iw_M} (hC : iw_LC l D cy ax am X b L xs) (hr : iw_Rel zx zm) (hi : ∀ c : Int32, (c = 1 ∨ c = 2 ∨ c = 3 ∨ c = 4) → vp_in (x3 + c) L) (kk : ∀ zx zm : iw_M, iw_Rel zx zm → iw_L l D cy ax am X 1200 [(0, .ref b), (1, .ref (ax 0)), (2, .ref (am 0)), (3, .int x3)] [] zx zm) : iw_L l D cy ax am X 578 [(0, .ref b), (1, .ref (ax 0)), (2, .ref (am 0)), (3, .int x3)] [] zx zm := by
  obtain ⟨r, zx1, zm1, e1, e2, hr1⟩ := st_decide hr (xs (x3 + 1).toNatClampNeg) (iw_b (xs (x3 + 2).toNatClampNeg)) (iw_b (xs (x3 + 3).toNatClampNeg)) (iw_b (xs (x3 + 4).toNatClampNeg)) (iw_b01 _) (iw_b01 _) (iw_b01 _)
  refine L_aln hC dL_law_578 1 rfl ?_
  refine L_aln hC dL_law_579 0 rfl ?_
  refine L_iln hC dL_law_580 3 rfl ?_
  refine L_ic (x := 1) hC dL_law_581 (by decide) ?_
  refine L_iadd hC dL_law_582 ?_
  refine L_sld hC (hi 1 (Or.inl rfl)) dL_law_583 ?_
  refine L_aln hC dL_law_584 0 rfl ?_
  refine L_iln hC dL_law_585 3 rfl ?_
  refine L_ic (x := 2) hC dL_law_586 (by decide) ?_
  refine L_iadd hC dL_law_587 ?_
  refine L_sld hC (hi 2 (Or.inr (Or.inl rfl))) dL_law_588 ?_
  refine L_bool hC dL_law_589 dL_law_592 dL_law_593 dL_law_596 ?_
  refine L_aln hC dL_law_597 0 rfl ?_
  refine L_iln hC dL_law_598 3 rfl ?_
  refine L_ic (x := 3) hC dL_law_599 (by decide) ?_
  refine L_iadd hC dL_law_600 ?_
  refine L_sld hC (hi 3 (Or.inr (Or.inr (Or.inl rfl)))) dL_law_601 ?_
  refine L_bool hC dL_law_602 dL_law_605 dL_law_606 dL_law_609 ?_
  refine L_aln hC dL_law_610 0 rfl ?_
  refine L_iln hC dL_law_611 3 rfl ?_
  refine L_ic (x := 4) hC dL_law_612 (by decide) ?_
  refine L_iadd hC dL_law_613 ?_
  refine L_sld hC (hi 4 (Or.inr (Or.inr (Or.inr rfl)))) dL_law_614 ?_
  refine L_bool hC dL_law_615 dL_law_618 dL_law_619 dL_law_622 ?_
  refine L_cX [] hC cv_L_66 (kX8_decide (iw_GG l D cy ax) _ _ _ _ _) e1 rfl rfl (Nat.le_of_ble_eq_true rfl) ⟨by decide, by decide⟩ dL_law_623 ?_
  refine L_aln hC dL_law_626 2 rfl ?_
  refine L_aln hC dL_law_627 0 rfl ?_
  refine L_iln hC dL_law_628 3 rfl ?_
  refine L_ic (x := 1) hC dL_law_629 (by decide) ?_
  refine L_iadd hC dL_law_630 ?_
  refine L_sld hC (hi 1 (Or.inl rfl)) dL_law_631 ?_
  refine L_aln hC dL_law_632 0 rfl ?_
  refine L_iln hC dL_law_633 3 rfl ?_
  refine L_ic (x := 2) hC dL_law_634 (by decide) ?_
  refine L_iadd hC dL_law_635 ?_
  refine L_sld hC (hi 2 (Or.inr (Or.inl rfl))) dL_law_636 ?_
  refine L_bool hC dL_law_637 dL_law_640 dL_law_641 dL_law_644 ?_
  refine L_aln hC dL_law_645 0 rfl ?_
  refine L_iln hC dL_law_646 3 rfl ?_
  refine L_ic (x := 3) hC dL_law_647 (by decide) ?_
  refine L_iadd hC dL_law_648 ?_
  refine L_sld hC (hi 3 (Or.inr (Or.inr (Or.inl rfl)))) dL_law_649 ?_
  refine L_bool hC dL_law_650 dL_law_653 dL_law_654 dL_law_657 ?_
  refine L_aln hC dL_law_658 0 rfl ?_
  refine L_iln hC dL_law_659 3 rfl ?_
  refine L_ic (x := 4) hC dL_law_660 (by decide) ?_
  refine L_iadd hC dL_law_661 ?_
  refine L_sld hC (hi 4 (Or.inr (Or.inr (Or.inr rfl)))) dL_law_662 ?_
  refine L_bool hC dL_law_663 dL_law_666 dL_law_667 dL_law_670 ?_
  refine L_cM [.int _] hC cv_L_70 (kX9_decide (iw_GG l D cy am) _ _ _ _ _) e2 rfl rfl (Nat.le_of_ble_eq_true rfl) ⟨by decide, by decide⟩ dL_law_671 ?_
  refine L_eq 1200 hC dL_law_674 (by decide) ?_
  exact kk _ _ hr1
set_option maxRecDepth 100000 in
set_option maxHeartbeats 4000000 in
theorem lw_c13 {l : Launch} {D : va_G} {cy : FieldType → ClassId} {ax am : Nat → Nat} {X : iw_X} {b L : Nat} {xs : Nat → Int32} {x3 : Int32} {zx zm : iw_M} (hC : iw_LC l D cy ax am X b L xs) (hr : iw_Rel zx zm) (hi : ∀ c : Int32, (c = 1 ∨ c = 2 ∨ c = 3 ∨ c = 4) → vp_in (x3 + c) L) (kk : ∀ zx zm : iw_M, iw_Rel zx zm → iw_L l D cy ax am X 1200 [(0, .ref b), (1, .ref (ax 0)), (2, .ref (am 0)), (3, .int x3)] [] zx zm) : iw_L l D cy ax am X 679 [(0, .ref b), (1, .ref (ax 0)), (2, .ref (am 0)), (3, .int x3)] [] zx zm := by
  obtain ⟨r, zx1, zm1, e1, e2, hr1⟩ := st_days hr (xs (x3 + 1).toNatClampNeg) 
  refine L_aln hC dL_law_679 1 rfl ?_
  refine L_aln hC dL_law_680 0 rfl ?_
  refine L_iln hC dL_law_681 3 rfl ?_
  refine L_ic (x := 1) hC dL_law_682 (by decide) ?_
  refine L_iadd hC dL_law_683 ?_
  refine L_sld hC (hi 1 (Or.inl rfl)) dL_law_684 ?_
  refine L_cX [] hC cv_L_71 (kX8_days (iw_GG l D cy ax) _ _) e1 rfl rfl (Nat.le_of_ble_eq_true rfl) ⟨by decide, by decide⟩ dL_law_685 ?_
  refine L_aln hC dL_law_688 2 rfl ?_
  refine L_aln hC dL_law_689 0 rfl ?_
  refine L_iln hC dL_law_690 3 rfl ?_
  refine L_ic (x := 1) hC dL_law_691 (by decide) ?_
  refine L_iadd hC dL_law_692 ?_
  refine L_sld hC (hi 1 (Or.inl rfl)) dL_law_693 ?_
  refine L_cM [.int _] hC cv_L_74 (kX9_days (iw_GG l D cy am) _ _) e2 rfl rfl (Nat.le_of_ble_eq_true rfl) ⟨by decide, by decide⟩ dL_law_694 ?_
  refine L_eq 1200 hC dL_law_697 (by decide) ?_
  exact kk _ _ hr1
set_option maxRecDepth 100000 in
set_option maxHeartbeats 4000000 in
theorem lw_c14 {l : Launch} {D : va_G} {cy : FieldType → ClassId} {ax am : Nat → Nat} {X : iw_X} {b L : Nat} {xs : Nat → Int32} {x3 : Int32} {zx zm : iw_M} (hC : iw_LC l D cy ax am X b L xs) (hr : iw_Rel zx zm) (hi : ∀ c : Int32, (c = 1 ∨ c = 2 ∨ c = 3 ∨ c = 4) → vp_in (x3 + c) L) (kk : ∀ zx zm : iw_M, iw_Rel zx zm → iw_L l D cy ax am X 1200 [(0, .ref b), (1, .ref (ax 0)), (2, .ref (am 0)), (3, .int x3)] [] zx zm) : iw_L l D cy ax am X 702 [(0, .ref b), (1, .ref (ax 0)), (2, .ref (am 0)), (3, .int x3)] [] zx zm := by
  obtain ⟨r, zx1, zm1, e1, e2, hr1⟩ := st_bench hr (xs (x3 + 1).toNatClampNeg) (xs (x3 + 2).toNatClampNeg) (xs (x3 + 3).toNatClampNeg) 
  refine L_aln hC dL_law_702 1 rfl ?_
  refine L_aln hC dL_law_703 0 rfl ?_
  refine L_iln hC dL_law_704 3 rfl ?_
  refine L_ic (x := 1) hC dL_law_705 (by decide) ?_
  refine L_iadd hC dL_law_706 ?_
  refine L_sld hC (hi 1 (Or.inl rfl)) dL_law_707 ?_
  refine L_aln hC dL_law_708 0 rfl ?_
  refine L_iln hC dL_law_709 3 rfl ?_
  refine L_ic (x := 2) hC dL_law_710 (by decide) ?_
  refine L_iadd hC dL_law_711 ?_
  refine L_sld hC (hi 2 (Or.inr (Or.inl rfl))) dL_law_712 ?_
  refine L_aln hC dL_law_713 0 rfl ?_
  refine L_iln hC dL_law_714 3 rfl ?_
  refine L_ic (x := 3) hC dL_law_715 (by decide) ?_
  refine L_iadd hC dL_law_716 ?_
  refine L_sld hC (hi 3 (Or.inr (Or.inr (Or.inl rfl)))) dL_law_717 ?_
  refine L_cX [] hC cv_L_75 (kX8_bench (iw_GG l D cy ax) _ _ _ _) e1 rfl rfl (Nat.le_of_ble_eq_true rfl) ⟨by decide, by decide⟩ dL_law_718 ?_
  refine L_aln hC dL_law_721 2 rfl ?_
  refine L_aln hC dL_law_722 0 rfl ?_
  refine L_iln hC dL_law_723 3 rfl ?_
  refine L_ic (x := 1) hC dL_law_724 (by decide) ?_
  refine L_iadd hC dL_law_725 ?_
  refine L_sld hC (hi 1 (Or.inl rfl)) dL_law_726 ?_
  refine L_aln hC dL_law_727 0 rfl ?_
  refine L_iln hC dL_law_728 3 rfl ?_
  refine L_ic (x := 2) hC dL_law_729 (by decide) ?_
  refine L_iadd hC dL_law_730 ?_
  refine L_sld hC (hi 2 (Or.inr (Or.inl rfl))) dL_law_731 ?_
  refine L_aln hC dL_law_732 0 rfl ?_
  refine L_iln hC dL_law_733 3 rfl ?_
  refine L_ic (x := 3) hC dL_law_734 (by decide) ?_
  refine L_iadd hC dL_law_735 ?_
  refine L_sld hC (hi 3 (Or.inr (Or.inr (Or.inl rfl)))) dL_law_736 ?_
  refine L_cM [.int _] hC cv_L_79 (kX9_bench (iw_GG l D cy am) _ _ _ _) e2 rfl rfl (Nat.le_of_ble_eq_true rfl) ⟨by decide, by decide⟩ dL_law_737 ?_
  refine L_eq 1200 hC dL_law_740 (by decide) ?_
  exact kk _ _ hr1
set_option maxRecDepth 100000 in
set_option maxHeartbeats 4000000 in
theorem lw_c15 {l : Launch} {D : va_G} {cy : FieldType → ClassId} {ax am : Nat → Nat} {X : iw_X} {b L : Nat} {xs : Nat → Int32} {x3 : Int32} {zx zm : iw_M} (hC : iw_LC l D cy ax am X b L xs) (hr : iw_Rel zx zm) (hi : ∀ c : Int32, (c = 1 ∨ c = 2 ∨ c = 3 ∨ c = 4) → vp_in (x3 + c) L) (kk : ∀ zx zm : iw_M, iw_Rel zx zm → iw_L l D cy ax am X 1200 [(0, .ref b), (1, .ref (ax 0)), (2, .ref (am 0)), (3, .int x3)] [] zx zm) : iw_L l D cy ax am X 745 [(0, .ref b), (1, .ref (ax 0)), (2, .ref (am 0)), (3, .int x3)] [] zx zm := by
  obtain ⟨r, zx1, zm1, e1, e2, hr1⟩ := st_measure hr (xs (x3 + 1).toNatClampNeg) (xs (x3 + 2).toNatClampNeg) (iw_b (xs (x3 + 3).toNatClampNeg)) (xs (x3 + 4).toNatClampNeg) (iw_b01 _)
  refine L_aln hC dL_law_745 1 rfl ?_
  refine L_aln hC dL_law_746 0 rfl ?_
  refine L_iln hC dL_law_747 3 rfl ?_
  refine L_ic (x := 1) hC dL_law_748 (by decide) ?_
  refine L_iadd hC dL_law_749 ?_
  refine L_sld hC (hi 1 (Or.inl rfl)) dL_law_750 ?_
  refine L_aln hC dL_law_751 0 rfl ?_
  refine L_iln hC dL_law_752 3 rfl ?_
  refine L_ic (x := 2) hC dL_law_753 (by decide) ?_
  refine L_iadd hC dL_law_754 ?_
  refine L_sld hC (hi 2 (Or.inr (Or.inl rfl))) dL_law_755 ?_
  refine L_aln hC dL_law_756 0 rfl ?_
  refine L_iln hC dL_law_757 3 rfl ?_
  refine L_ic (x := 3) hC dL_law_758 (by decide) ?_
  refine L_iadd hC dL_law_759 ?_
  refine L_sld hC (hi 3 (Or.inr (Or.inr (Or.inl rfl)))) dL_law_760 ?_
  refine L_bool hC dL_law_761 dL_law_764 dL_law_765 dL_law_768 ?_
  refine L_aln hC dL_law_769 0 rfl ?_
  refine L_iln hC dL_law_770 3 rfl ?_
  refine L_ic (x := 4) hC dL_law_771 (by decide) ?_
  refine L_iadd hC dL_law_772 ?_
  refine L_sld hC (hi 4 (Or.inr (Or.inr (Or.inr rfl)))) dL_law_773 ?_
  refine L_cX [] hC cv_L_80 (kX8_measure (iw_GG l D cy ax) _ _ _ _ _) e1 rfl rfl (Nat.le_of_ble_eq_true rfl) ⟨by decide, by decide⟩ dL_law_774 ?_
  refine L_aln hC dL_law_777 2 rfl ?_
  refine L_aln hC dL_law_778 0 rfl ?_
  refine L_iln hC dL_law_779 3 rfl ?_
  refine L_ic (x := 1) hC dL_law_780 (by decide) ?_
  refine L_iadd hC dL_law_781 ?_
  refine L_sld hC (hi 1 (Or.inl rfl)) dL_law_782 ?_
  refine L_aln hC dL_law_783 0 rfl ?_
  refine L_iln hC dL_law_784 3 rfl ?_
  refine L_ic (x := 2) hC dL_law_785 (by decide) ?_
  refine L_iadd hC dL_law_786 ?_
  refine L_sld hC (hi 2 (Or.inr (Or.inl rfl))) dL_law_787 ?_
  refine L_aln hC dL_law_788 0 rfl ?_
  refine L_iln hC dL_law_789 3 rfl ?_
  refine L_ic (x := 3) hC dL_law_790 (by decide) ?_
  refine L_iadd hC dL_law_791 ?_
  refine L_sld hC (hi 3 (Or.inr (Or.inr (Or.inl rfl)))) dL_law_792 ?_
  refine L_bool hC dL_law_793 dL_law_796 dL_law_797 dL_law_800 ?_
  refine L_aln hC dL_law_801 0 rfl ?_
  refine L_iln hC dL_law_802 3 rfl ?_
  refine L_ic (x := 4) hC dL_law_803 (by decide) ?_
  refine L_iadd hC dL_law_804 ?_
  refine L_sld hC (hi 4 (Or.inr (Or.inr (Or.inr rfl)))) dL_law_805 ?_
  refine L_cM [.int _] hC cv_L_84 (kX9_measure (iw_GG l D cy am) _ _ _ _ _) e2 rfl rfl (Nat.le_of_ble_eq_true rfl) ⟨by decide, by decide⟩ dL_law_806 ?_
  refine L_eq 1200 hC dL_law_809 (by decide) ?_
  exact kk _ _ hr1
set_option maxRecDepth 100000 in
set_option maxHeartbeats 4000000 in
theorem lw_c16 {l : Launch} {D : va_G} {cy : FieldType → ClassId} {ax am : Nat → Nat} {X : iw_X} {b L : Nat} {xs : Nat → Int32} {x3 : Int32} {zx zm : iw_M} (hC : iw_LC l D cy ax am X b L xs) (hr : iw_Rel zx zm) (hi : ∀ c : Int32, (c = 1 ∨ c = 2 ∨ c = 3 ∨ c = 4) → vp_in (x3 + c) L) (kk : ∀ zx zm : iw_M, iw_Rel zx zm → iw_L l D cy ax am X 1200 [(0, .ref b), (1, .ref (ax 0)), (2, .ref (am 0)), (3, .int x3)] [] zx zm) : iw_L l D cy ax am X 814 [(0, .ref b), (1, .ref (ax 0)), (2, .ref (am 0)), (3, .int x3)] [] zx zm := by
  obtain ⟨r, zx1, zm1, e1, e2, hr1⟩ := st_saved hr (xs (x3 + 1).toNatClampNeg) (xs (x3 + 2).toNatClampNeg) (xs (x3 + 3).toNatClampNeg) 
  refine L_aln hC dL_law_814 1 rfl ?_
  refine L_aln hC dL_law_815 0 rfl ?_
  refine L_iln hC dL_law_816 3 rfl ?_
  refine L_ic (x := 1) hC dL_law_817 (by decide) ?_
  refine L_iadd hC dL_law_818 ?_
  refine L_sld hC (hi 1 (Or.inl rfl)) dL_law_819 ?_
  refine L_aln hC dL_law_820 0 rfl ?_
  refine L_iln hC dL_law_821 3 rfl ?_
  refine L_ic (x := 2) hC dL_law_822 (by decide) ?_
  refine L_iadd hC dL_law_823 ?_
  refine L_sld hC (hi 2 (Or.inr (Or.inl rfl))) dL_law_824 ?_
  refine L_aln hC dL_law_825 0 rfl ?_
  refine L_iln hC dL_law_826 3 rfl ?_
  refine L_ic (x := 3) hC dL_law_827 (by decide) ?_
  refine L_iadd hC dL_law_828 ?_
  refine L_sld hC (hi 3 (Or.inr (Or.inr (Or.inl rfl)))) dL_law_829 ?_
  refine L_cX [] hC cv_L_85 (kX8_saved (iw_GG l D cy ax) _ _ _ _) e1 rfl rfl (Nat.le_of_ble_eq_true rfl) ⟨by decide, by decide⟩ dL_law_830 ?_
  refine L_aln hC dL_law_833 2 rfl ?_
  refine L_aln hC dL_law_834 0 rfl ?_
  refine L_iln hC dL_law_835 3 rfl ?_
  refine L_ic (x := 1) hC dL_law_836 (by decide) ?_
  refine L_iadd hC dL_law_837 ?_
  refine L_sld hC (hi 1 (Or.inl rfl)) dL_law_838 ?_
  refine L_aln hC dL_law_839 0 rfl ?_
  refine L_iln hC dL_law_840 3 rfl ?_
  refine L_ic (x := 2) hC dL_law_841 (by decide) ?_
  refine L_iadd hC dL_law_842 ?_
  refine L_sld hC (hi 2 (Or.inr (Or.inl rfl))) dL_law_843 ?_
  refine L_aln hC dL_law_844 0 rfl ?_
  refine L_iln hC dL_law_845 3 rfl ?_
  refine L_ic (x := 3) hC dL_law_846 (by decide) ?_
  refine L_iadd hC dL_law_847 ?_
  refine L_sld hC (hi 3 (Or.inr (Or.inr (Or.inl rfl)))) dL_law_848 ?_
  refine L_cM [.int _] hC cv_L_88 (kX9_saved (iw_GG l D cy am) _ _ _ _) e2 rfl rfl (Nat.le_of_ble_eq_true rfl) ⟨by decide, by decide⟩ dL_law_849 ?_
  refine L_eq 1200 hC dL_law_852 (by decide) ?_
  exact kk _ _ hr1
set_option maxRecDepth 100000 in
set_option maxHeartbeats 4000000 in
theorem lw_c17 {l : Launch} {D : va_G} {cy : FieldType → ClassId} {ax am : Nat → Nat} {X : iw_X} {b L : Nat} {xs : Nat → Int32} {x3 : Int32} {zx zm : iw_M} (hC : iw_LC l D cy ax am X b L xs) (hr : iw_Rel zx zm) (hi : ∀ c : Int32, (c = 1 ∨ c = 2 ∨ c = 3 ∨ c = 4) → vp_in (x3 + c) L) (kk : ∀ zx zm : iw_M, iw_Rel zx zm → iw_L l D cy ax am X 1200 [(0, .ref b), (1, .ref (ax 0)), (2, .ref (am 0)), (3, .int x3)] [] zx zm) : iw_L l D cy ax am X 857 [(0, .ref b), (1, .ref (ax 0)), (2, .ref (am 0)), (3, .int x3)] [] zx zm := by
  obtain ⟨r, zx1, zm1, e1, e2, hr1⟩ := st_harm hr (xs (x3 + 1).toNatClampNeg) (xs (x3 + 2).toNatClampNeg) 
  refine L_aln hC dL_law_857 1 rfl ?_
  refine L_aln hC dL_law_858 0 rfl ?_
  refine L_iln hC dL_law_859 3 rfl ?_
  refine L_ic (x := 1) hC dL_law_860 (by decide) ?_
  refine L_iadd hC dL_law_861 ?_
  refine L_sld hC (hi 1 (Or.inl rfl)) dL_law_862 ?_
  refine L_aln hC dL_law_863 0 rfl ?_
  refine L_iln hC dL_law_864 3 rfl ?_
  refine L_ic (x := 2) hC dL_law_865 (by decide) ?_
  refine L_iadd hC dL_law_866 ?_
  refine L_sld hC (hi 2 (Or.inr (Or.inl rfl))) dL_law_867 ?_
  refine L_cX [] hC cv_L_89 (kX8_harm (iw_GG l D cy ax) _ _ _) e1 rfl rfl (Nat.le_of_ble_eq_true rfl) ⟨by decide, by decide⟩ dL_law_868 ?_
  refine L_aln hC dL_law_871 2 rfl ?_
  refine L_aln hC dL_law_872 0 rfl ?_
  refine L_iln hC dL_law_873 3 rfl ?_
  refine L_ic (x := 1) hC dL_law_874 (by decide) ?_
  refine L_iadd hC dL_law_875 ?_
  refine L_sld hC (hi 1 (Or.inl rfl)) dL_law_876 ?_
  refine L_aln hC dL_law_877 0 rfl ?_
  refine L_iln hC dL_law_878 3 rfl ?_
  refine L_ic (x := 2) hC dL_law_879 (by decide) ?_
  refine L_iadd hC dL_law_880 ?_
  refine L_sld hC (hi 2 (Or.inr (Or.inl rfl))) dL_law_881 ?_
  refine L_cM [.int _] hC cv_L_92 (kX9_harm (iw_GG l D cy am) _ _ _) e2 rfl rfl (Nat.le_of_ble_eq_true rfl) ⟨by decide, by decide⟩ dL_law_882 ?_
  refine L_eq 1200 hC dL_law_885 (by decide) ?_
  exact kk _ _ hr1
set_option maxRecDepth 100000 in
set_option maxHeartbeats 4000000 in
theorem lw_c18 {l : Launch} {D : va_G} {cy : FieldType → ClassId} {ax am : Nat → Nat} {X : iw_X} {b L : Nat} {xs : Nat → Int32} {x3 : Int32} {zx zm : iw_M} (hC : iw_LC l D cy ax am X b L xs) (hr : iw_Rel zx zm) (hi : ∀ c : Int32, (c = 1 ∨ c = 2 ∨ c = 3 ∨ c = 4) → vp_in (x3 + c) L) (kk : ∀ zx zm : iw_M, iw_Rel zx zm → iw_L l D cy ax am X 1200 [(0, .ref b), (1, .ref (ax 0)), (2, .ref (am 0)), (3, .int x3)] [] zx zm) : iw_L l D cy ax am X 890 [(0, .ref b), (1, .ref (ax 0)), (2, .ref (am 0)), (3, .int x3)] [] zx zm := by
  obtain ⟨r, zx1, zm1, e1, e2, hr1⟩ := st_worth hr (xs (x3 + 1).toNatClampNeg) 
  refine L_aln hC dL_law_890 1 rfl ?_
  refine L_aln hC dL_law_891 0 rfl ?_
  refine L_iln hC dL_law_892 3 rfl ?_
  refine L_ic (x := 1) hC dL_law_893 (by decide) ?_
  refine L_iadd hC dL_law_894 ?_
  refine L_sld hC (hi 1 (Or.inl rfl)) dL_law_895 ?_
  refine L_cX [] hC cv_L_93 (kX8_worth (iw_GG l D cy ax) _ _) e1 rfl rfl (Nat.le_of_ble_eq_true rfl) ⟨by decide, by decide⟩ dL_law_896 ?_
  refine L_aln hC dL_law_899 2 rfl ?_
  refine L_aln hC dL_law_900 0 rfl ?_
  refine L_iln hC dL_law_901 3 rfl ?_
  refine L_ic (x := 1) hC dL_law_902 (by decide) ?_
  refine L_iadd hC dL_law_903 ?_
  refine L_sld hC (hi 1 (Or.inl rfl)) dL_law_904 ?_
  refine L_cM [.int _] hC cv_L_96 (kX9_worth (iw_GG l D cy am) _ _) e2 rfl rfl (Nat.le_of_ble_eq_true rfl) ⟨by decide, by decide⟩ dL_law_905 ?_
  refine L_eq 1200 hC dL_law_908 (by decide) ?_
  exact kk _ _ hr1
set_option maxRecDepth 100000 in
set_option maxHeartbeats 4000000 in
theorem lw_c19 {l : Launch} {D : va_G} {cy : FieldType → ClassId} {ax am : Nat → Nat} {X : iw_X} {b L : Nat} {xs : Nat → Int32} {x3 : Int32} {zx zm : iw_M} (hC : iw_LC l D cy ax am X b L xs) (hr : iw_Rel zx zm) (hi : ∀ c : Int32, (c = 1 ∨ c = 2 ∨ c = 3 ∨ c = 4) → vp_in (x3 + c) L) (kk : ∀ zx zm : iw_M, iw_Rel zx zm → iw_L l D cy ax am X 1200 [(0, .ref b), (1, .ref (ax 0)), (2, .ref (am 0)), (3, .int x3)] [] zx zm) : iw_L l D cy ax am X 913 [(0, .ref b), (1, .ref (ax 0)), (2, .ref (am 0)), (3, .int x3)] [] zx zm := by
  obtain ⟨r, zx1, zm1, e1, e2, hr1⟩ := st_rule hr (xs (x3 + 1).toNatClampNeg) (xs (x3 + 2).toNatClampNeg) (xs (x3 + 3).toNatClampNeg) (xs (x3 + 4).toNatClampNeg) 
  refine L_aln hC dL_law_913 1 rfl ?_
  refine L_aln hC dL_law_914 0 rfl ?_
  refine L_iln hC dL_law_915 3 rfl ?_
  refine L_ic (x := 1) hC dL_law_916 (by decide) ?_
  refine L_iadd hC dL_law_917 ?_
  refine L_sld hC (hi 1 (Or.inl rfl)) dL_law_918 ?_
  refine L_aln hC dL_law_919 0 rfl ?_
  refine L_iln hC dL_law_920 3 rfl ?_
  refine L_ic (x := 2) hC dL_law_921 (by decide) ?_
  refine L_iadd hC dL_law_922 ?_
  refine L_sld hC (hi 2 (Or.inr (Or.inl rfl))) dL_law_923 ?_
  refine L_aln hC dL_law_924 0 rfl ?_
  refine L_iln hC dL_law_925 3 rfl ?_
  refine L_ic (x := 3) hC dL_law_926 (by decide) ?_
  refine L_iadd hC dL_law_927 ?_
  refine L_sld hC (hi 3 (Or.inr (Or.inr (Or.inl rfl)))) dL_law_928 ?_
  refine L_aln hC dL_law_929 0 rfl ?_
  refine L_iln hC dL_law_930 3 rfl ?_
  refine L_ic (x := 4) hC dL_law_931 (by decide) ?_
  refine L_iadd hC dL_law_932 ?_
  refine L_sld hC (hi 4 (Or.inr (Or.inr (Or.inr rfl)))) dL_law_933 ?_
  refine L_cX [] hC cv_L_97 (kX8_rule (iw_GG l D cy ax) _ _ _ _ _) e1 rfl rfl (Nat.le_of_ble_eq_true rfl) ⟨by decide, by decide⟩ dL_law_934 ?_
  refine L_aln hC dL_law_937 2 rfl ?_
  refine L_aln hC dL_law_938 0 rfl ?_
  refine L_iln hC dL_law_939 3 rfl ?_
  refine L_ic (x := 1) hC dL_law_940 (by decide) ?_
  refine L_iadd hC dL_law_941 ?_
  refine L_sld hC (hi 1 (Or.inl rfl)) dL_law_942 ?_
  refine L_aln hC dL_law_943 0 rfl ?_
  refine L_iln hC dL_law_944 3 rfl ?_
  refine L_ic (x := 2) hC dL_law_945 (by decide) ?_
  refine L_iadd hC dL_law_946 ?_
  refine L_sld hC (hi 2 (Or.inr (Or.inl rfl))) dL_law_947 ?_
  refine L_aln hC dL_law_948 0 rfl ?_
  refine L_iln hC dL_law_949 3 rfl ?_
  refine L_ic (x := 3) hC dL_law_950 (by decide) ?_
  refine L_iadd hC dL_law_951 ?_
  refine L_sld hC (hi 3 (Or.inr (Or.inr (Or.inl rfl)))) dL_law_952 ?_
  refine L_aln hC dL_law_953 0 rfl ?_
  refine L_iln hC dL_law_954 3 rfl ?_
  refine L_ic (x := 4) hC dL_law_955 (by decide) ?_
  refine L_iadd hC dL_law_956 ?_
  refine L_sld hC (hi 4 (Or.inr (Or.inr (Or.inr rfl)))) dL_law_957 ?_
  refine L_cM [.int _] hC cv_L_100 (kX9_rule (iw_GG l D cy am) _ _ _ _ _) e2 rfl rfl (Nat.le_of_ble_eq_true rfl) ⟨by decide, by decide⟩ dL_law_958 ?_
  refine L_eq 1200 hC dL_law_961 (by decide) ?_
  exact kk _ _ hr1
set_option maxRecDepth 100000 in
set_option maxHeartbeats 4000000 in
theorem lw_c20 {l : Launch} {D : va_G} {cy : FieldType → ClassId} {ax am : Nat → Nat} {X : iw_X} {b L : Nat} {xs : Nat → Int32} {x3 : Int32} {zx zm : iw_M} (hC : iw_LC l D cy ax am X b L xs) (hr : iw_Rel zx zm) (hi : ∀ c : Int32, (c = 1 ∨ c = 2 ∨ c = 3 ∨ c = 4) → vp_in (x3 + c) L) (kk : ∀ zx zm : iw_M, iw_Rel zx zm → iw_L l D cy ax am X 1200 [(0, .ref b), (1, .ref (ax 0)), (2, .ref (am 0)), (3, .int x3)] [] zx zm) : iw_L l D cy ax am X 966 [(0, .ref b), (1, .ref (ax 0)), (2, .ref (am 0)), (3, .int x3)] [] zx zm := by
  obtain ⟨r, zx1, zm1, e1, e2, hr1⟩ := st_ruleOf hr (xs (x3 + 1).toNatClampNeg) 
  refine L_aln hC dL_law_966 1 rfl ?_
  refine L_aln hC dL_law_967 0 rfl ?_
  refine L_iln hC dL_law_968 3 rfl ?_
  refine L_ic (x := 1) hC dL_law_969 (by decide) ?_
  refine L_iadd hC dL_law_970 ?_
  refine L_sld hC (hi 1 (Or.inl rfl)) dL_law_971 ?_
  refine L_cX [] hC cv_L_101 (kX8_ruleOf (iw_GG l D cy ax) _ _) e1 rfl rfl (Nat.le_of_ble_eq_true rfl) ⟨by decide, by decide⟩ dL_law_972 ?_
  refine L_aln hC dL_law_975 2 rfl ?_
  refine L_aln hC dL_law_976 0 rfl ?_
  refine L_iln hC dL_law_977 3 rfl ?_
  refine L_ic (x := 1) hC dL_law_978 (by decide) ?_
  refine L_iadd hC dL_law_979 ?_
  refine L_sld hC (hi 1 (Or.inl rfl)) dL_law_980 ?_
  refine L_cM [.int _] hC cv_L_104 (kX9_ruleOf (iw_GG l D cy am) _ _) e2 rfl rfl (Nat.le_of_ble_eq_true rfl) ⟨by decide, by decide⟩ dL_law_981 ?_
  refine L_eq 1200 hC dL_law_984 (by decide) ?_
  exact kk _ _ hr1
set_option maxRecDepth 100000 in
set_option maxHeartbeats 4000000 in
theorem lw_c21 {l : Launch} {D : va_G} {cy : FieldType → ClassId} {ax am : Nat → Nat} {X : iw_X} {b L : Nat} {xs : Nat → Int32} {x3 : Int32} {zx zm : iw_M} (hC : iw_LC l D cy ax am X b L xs) (hr : iw_Rel zx zm) (hi : ∀ c : Int32, (c = 1 ∨ c = 2 ∨ c = 3 ∨ c = 4) → vp_in (x3 + c) L) (kk : ∀ zx zm : iw_M, iw_Rel zx zm → iw_L l D cy ax am X 1200 [(0, .ref b), (1, .ref (ax 0)), (2, .ref (am 0)), (3, .int x3)] [] zx zm) : iw_L l D cy ax am X 989 [(0, .ref b), (1, .ref (ax 0)), (2, .ref (am 0)), (3, .int x3)] [] zx zm := by
  obtain ⟨r, zx1, zm1, e1, e2, hr1⟩ := st_work hr (xs (x3 + 1).toNatClampNeg) (xs (x3 + 2).toNatClampNeg) 
  refine L_aln hC dL_law_989 1 rfl ?_
  refine L_aln hC dL_law_990 0 rfl ?_
  refine L_iln hC dL_law_991 3 rfl ?_
  refine L_ic (x := 1) hC dL_law_992 (by decide) ?_
  refine L_iadd hC dL_law_993 ?_
  refine L_sld hC (hi 1 (Or.inl rfl)) dL_law_994 ?_
  refine L_aln hC dL_law_995 0 rfl ?_
  refine L_iln hC dL_law_996 3 rfl ?_
  refine L_ic (x := 2) hC dL_law_997 (by decide) ?_
  refine L_iadd hC dL_law_998 ?_
  refine L_sld hC (hi 2 (Or.inr (Or.inl rfl))) dL_law_999 ?_
  refine L_cX [] hC cv_L_105 (kX8_work (iw_GG l D cy ax) _ _ _) e1 rfl rfl (Nat.le_of_ble_eq_true rfl) ⟨by decide, by decide⟩ dL_law_1000 ?_
  refine L_aln hC dL_law_1003 2 rfl ?_
  refine L_aln hC dL_law_1004 0 rfl ?_
  refine L_iln hC dL_law_1005 3 rfl ?_
  refine L_ic (x := 1) hC dL_law_1006 (by decide) ?_
  refine L_iadd hC dL_law_1007 ?_
  refine L_sld hC (hi 1 (Or.inl rfl)) dL_law_1008 ?_
  refine L_aln hC dL_law_1009 0 rfl ?_
  refine L_iln hC dL_law_1010 3 rfl ?_
  refine L_ic (x := 2) hC dL_law_1011 (by decide) ?_
  refine L_iadd hC dL_law_1012 ?_
  refine L_sld hC (hi 2 (Or.inr (Or.inl rfl))) dL_law_1013 ?_
  refine L_cM [.int _] hC cv_L_108 (kX9_work (iw_GG l D cy am) _ _ _) e2 rfl rfl (Nat.le_of_ble_eq_true rfl) ⟨by decide, by decide⟩ dL_law_1014 ?_
  refine L_eq 1200 hC dL_law_1017 (by decide) ?_
  exact kk _ _ hr1
set_option maxRecDepth 100000 in
set_option maxHeartbeats 4000000 in
theorem lw_c22 {l : Launch} {D : va_G} {cy : FieldType → ClassId} {ax am : Nat → Nat} {X : iw_X} {b L : Nat} {xs : Nat → Int32} {x3 : Int32} {zx zm : iw_M} (hC : iw_LC l D cy ax am X b L xs) (hr : iw_Rel zx zm) (hi : ∀ c : Int32, (c = 1 ∨ c = 2 ∨ c = 3 ∨ c = 4) → vp_in (x3 + c) L) (kk : ∀ zx zm : iw_M, iw_Rel zx zm → iw_L l D cy ax am X 1200 [(0, .ref b), (1, .ref (ax 0)), (2, .ref (am 0)), (3, .int x3)] [] zx zm) : iw_L l D cy ax am X 1022 [(0, .ref b), (1, .ref (ax 0)), (2, .ref (am 0)), (3, .int x3)] [] zx zm := by
  obtain ⟨r, zx1, zm1, e1, e2, hr1⟩ := st_ledBack hr (xs (x3 + 1).toNatClampNeg) 
  refine L_aln hC dL_law_1022 1 rfl ?_
  refine L_aln hC dL_law_1023 0 rfl ?_
  refine L_iln hC dL_law_1024 3 rfl ?_
  refine L_ic (x := 1) hC dL_law_1025 (by decide) ?_
  refine L_iadd hC dL_law_1026 ?_
  refine L_sld hC (hi 1 (Or.inl rfl)) dL_law_1027 ?_
  refine L_cX [] hC cv_L_109 (kX8_ledBack (iw_GG l D cy ax) _ _) e1 rfl rfl (Nat.le_of_ble_eq_true rfl) ⟨by decide, by decide⟩ dL_law_1028 ?_
  refine L_aln hC dL_law_1031 2 rfl ?_
  refine L_aln hC dL_law_1032 0 rfl ?_
  refine L_iln hC dL_law_1033 3 rfl ?_
  refine L_ic (x := 1) hC dL_law_1034 (by decide) ?_
  refine L_iadd hC dL_law_1035 ?_
  refine L_sld hC (hi 1 (Or.inl rfl)) dL_law_1036 ?_
  refine L_cM [.int _] hC cv_L_112 (kX9_ledBack (iw_GG l D cy am) _ _) e2 rfl rfl (Nat.le_of_ble_eq_true rfl) ⟨by decide, by decide⟩ dL_law_1037 ?_
  refine L_eq 1200 hC dL_law_1040 (by decide) ?_
  exact kk _ _ hr1
set_option maxRecDepth 100000 in
set_option maxHeartbeats 4000000 in
theorem lw_c23 {l : Launch} {D : va_G} {cy : FieldType → ClassId} {ax am : Nat → Nat} {X : iw_X} {b L : Nat} {xs : Nat → Int32} {x3 : Int32} {zx zm : iw_M} (hC : iw_LC l D cy ax am X b L xs) (hr : iw_Rel zx zm) (hi : ∀ c : Int32, (c = 1 ∨ c = 2 ∨ c = 3 ∨ c = 4) → vp_in (x3 + c) L) (kk : ∀ zx zm : iw_M, iw_Rel zx zm → iw_L l D cy ax am X 1200 [(0, .ref b), (1, .ref (ax 0)), (2, .ref (am 0)), (3, .int x3)] [] zx zm) : iw_L l D cy ax am X 1045 [(0, .ref b), (1, .ref (ax 0)), (2, .ref (am 0)), (3, .int x3)] [] zx zm := by
  obtain ⟨r, zx1, zm1, e1, e2, hr1⟩ := st_reopen hr (xs (x3 + 1).toNatClampNeg) 
  refine L_aln hC dL_law_1045 1 rfl ?_
  refine L_aln hC dL_law_1046 0 rfl ?_
  refine L_iln hC dL_law_1047 3 rfl ?_
  refine L_ic (x := 1) hC dL_law_1048 (by decide) ?_
  refine L_iadd hC dL_law_1049 ?_
  refine L_sld hC (hi 1 (Or.inl rfl)) dL_law_1050 ?_
  refine L_cX [] hC cv_L_113 (kX8_reopen (iw_GG l D cy ax) _ _) e1 rfl rfl (Nat.le_of_ble_eq_true rfl) ⟨by decide, by decide⟩ dL_law_1051 ?_
  refine L_aln hC dL_law_1054 2 rfl ?_
  refine L_aln hC dL_law_1055 0 rfl ?_
  refine L_iln hC dL_law_1056 3 rfl ?_
  refine L_ic (x := 1) hC dL_law_1057 (by decide) ?_
  refine L_iadd hC dL_law_1058 ?_
  refine L_sld hC (hi 1 (Or.inl rfl)) dL_law_1059 ?_
  refine L_cM [.int _] hC cv_L_116 (kX9_reopen (iw_GG l D cy am) _ _) e2 rfl rfl (Nat.le_of_ble_eq_true rfl) ⟨by decide, by decide⟩ dL_law_1060 ?_
  refine L_eq 1200 hC dL_law_1063 (by decide) ?_
  exact kk _ _ hr1
set_option maxRecDepth 100000 in
set_option maxHeartbeats 4000000 in
theorem lw_c24 {l : Launch} {D : va_G} {cy : FieldType → ClassId} {ax am : Nat → Nat} {X : iw_X} {b L : Nat} {xs : Nat → Int32} {x3 : Int32} {zx zm : iw_M} (hC : iw_LC l D cy ax am X b L xs) (hr : iw_Rel zx zm) (hi : ∀ c : Int32, (c = 1 ∨ c = 2 ∨ c = 3 ∨ c = 4) → vp_in (x3 + c) L) (kk : ∀ zx zm : iw_M, iw_Rel zx zm → iw_L l D cy ax am X 1200 [(0, .ref b), (1, .ref (ax 0)), (2, .ref (am 0)), (3, .int x3)] [] zx zm) : iw_L l D cy ax am X 1068 [(0, .ref b), (1, .ref (ax 0)), (2, .ref (am 0)), (3, .int x3)] [] zx zm := by
  obtain ⟨r, zx1, zm1, e1, e2, hr1⟩ := st_other hr (xs (x3 + 1).toNatClampNeg) (xs (x3 + 2).toNatClampNeg) (xs (x3 + 3).toNatClampNeg) 
  refine L_aln hC dL_law_1068 1 rfl ?_
  refine L_aln hC dL_law_1069 0 rfl ?_
  refine L_iln hC dL_law_1070 3 rfl ?_
  refine L_ic (x := 1) hC dL_law_1071 (by decide) ?_
  refine L_iadd hC dL_law_1072 ?_
  refine L_sld hC (hi 1 (Or.inl rfl)) dL_law_1073 ?_
  refine L_aln hC dL_law_1074 0 rfl ?_
  refine L_iln hC dL_law_1075 3 rfl ?_
  refine L_ic (x := 2) hC dL_law_1076 (by decide) ?_
  refine L_iadd hC dL_law_1077 ?_
  refine L_sld hC (hi 2 (Or.inr (Or.inl rfl))) dL_law_1078 ?_
  refine L_aln hC dL_law_1079 0 rfl ?_
  refine L_iln hC dL_law_1080 3 rfl ?_
  refine L_ic (x := 3) hC dL_law_1081 (by decide) ?_
  refine L_iadd hC dL_law_1082 ?_
  refine L_sld hC (hi 3 (Or.inr (Or.inr (Or.inl rfl)))) dL_law_1083 ?_
  refine L_cX [] hC cv_L_117 (kX8_other (iw_GG l D cy ax) _ _ _ _) e1 rfl rfl (Nat.le_of_ble_eq_true rfl) ⟨by decide, by decide⟩ dL_law_1084 ?_
  refine L_aln hC dL_law_1087 2 rfl ?_
  refine L_aln hC dL_law_1088 0 rfl ?_
  refine L_iln hC dL_law_1089 3 rfl ?_
  refine L_ic (x := 1) hC dL_law_1090 (by decide) ?_
  refine L_iadd hC dL_law_1091 ?_
  refine L_sld hC (hi 1 (Or.inl rfl)) dL_law_1092 ?_
  refine L_aln hC dL_law_1093 0 rfl ?_
  refine L_iln hC dL_law_1094 3 rfl ?_
  refine L_ic (x := 2) hC dL_law_1095 (by decide) ?_
  refine L_iadd hC dL_law_1096 ?_
  refine L_sld hC (hi 2 (Or.inr (Or.inl rfl))) dL_law_1097 ?_
  refine L_aln hC dL_law_1098 0 rfl ?_
  refine L_iln hC dL_law_1099 3 rfl ?_
  refine L_ic (x := 3) hC dL_law_1100 (by decide) ?_
  refine L_iadd hC dL_law_1101 ?_
  refine L_sld hC (hi 3 (Or.inr (Or.inr (Or.inl rfl)))) dL_law_1102 ?_
  refine L_cM [.int _] hC cv_L_120 (kX9_other (iw_GG l D cy am) _ _ _ _) e2 rfl rfl (Nat.le_of_ble_eq_true rfl) ⟨by decide, by decide⟩ dL_law_1103 ?_
  refine L_eq 1200 hC dL_law_1106 (by decide) ?_
  exact kk _ _ hr1
set_option maxRecDepth 100000 in
set_option maxHeartbeats 4000000 in
theorem lw_c25 {l : Launch} {D : va_G} {cy : FieldType → ClassId} {ax am : Nat → Nat} {X : iw_X} {b L : Nat} {xs : Nat → Int32} {x3 : Int32} {zx zm : iw_M} (hC : iw_LC l D cy ax am X b L xs) (hr : iw_Rel zx zm) (hi : ∀ c : Int32, (c = 1 ∨ c = 2 ∨ c = 3 ∨ c = 4) → vp_in (x3 + c) L) (kk : ∀ zx zm : iw_M, iw_Rel zx zm → iw_L l D cy ax am X 1200 [(0, .ref b), (1, .ref (ax 0)), (2, .ref (am 0)), (3, .int x3)] [] zx zm) : iw_L l D cy ax am X 1111 [(0, .ref b), (1, .ref (ax 0)), (2, .ref (am 0)), (3, .int x3)] [] zx zm := by
  obtain ⟨r, zx1, zm1, e1, e2, hr1⟩ := st_coins hr (xs (x3 + 1).toNatClampNeg) (xs (x3 + 2).toNatClampNeg) 
  refine L_aln hC dL_law_1111 1 rfl ?_
  refine L_aln hC dL_law_1112 0 rfl ?_
  refine L_iln hC dL_law_1113 3 rfl ?_
  refine L_ic (x := 1) hC dL_law_1114 (by decide) ?_
  refine L_iadd hC dL_law_1115 ?_
  refine L_sld hC (hi 1 (Or.inl rfl)) dL_law_1116 ?_
  refine L_aln hC dL_law_1117 0 rfl ?_
  refine L_iln hC dL_law_1118 3 rfl ?_
  refine L_ic (x := 2) hC dL_law_1119 (by decide) ?_
  refine L_iadd hC dL_law_1120 ?_
  refine L_sld hC (hi 2 (Or.inr (Or.inl rfl))) dL_law_1121 ?_
  refine L_cX [] hC cv_L_121 (kX8_coins (iw_GG l D cy ax) _ _ _) e1 rfl rfl (Nat.le_of_ble_eq_true rfl) ⟨by decide, by decide⟩ dL_law_1122 ?_
  refine L_aln hC dL_law_1125 2 rfl ?_
  refine L_aln hC dL_law_1126 0 rfl ?_
  refine L_iln hC dL_law_1127 3 rfl ?_
  refine L_ic (x := 1) hC dL_law_1128 (by decide) ?_
  refine L_iadd hC dL_law_1129 ?_
  refine L_sld hC (hi 1 (Or.inl rfl)) dL_law_1130 ?_
  refine L_aln hC dL_law_1131 0 rfl ?_
  refine L_iln hC dL_law_1132 3 rfl ?_
  refine L_ic (x := 2) hC dL_law_1133 (by decide) ?_
  refine L_iadd hC dL_law_1134 ?_
  refine L_sld hC (hi 2 (Or.inr (Or.inl rfl))) dL_law_1135 ?_
  refine L_cM [.int _] hC cv_L_124 (kX9_coins (iw_GG l D cy am) _ _ _) e2 rfl rfl (Nat.le_of_ble_eq_true rfl) ⟨by decide, by decide⟩ dL_law_1136 ?_
  refine L_eq 1200 hC dL_law_1139 (by decide) ?_
  exact kk _ _ hr1
set_option maxRecDepth 100000 in
set_option maxHeartbeats 4000000 in
theorem lw_c26 {l : Launch} {D : va_G} {cy : FieldType → ClassId} {ax am : Nat → Nat} {X : iw_X} {b L : Nat} {xs : Nat → Int32} {x3 : Int32} {zx zm : iw_M} (hC : iw_LC l D cy ax am X b L xs) (hr : iw_Rel zx zm) (hi : ∀ c : Int32, (c = 1 ∨ c = 2 ∨ c = 3 ∨ c = 4) → vp_in (x3 + c) L) (kk : ∀ zx zm : iw_M, iw_Rel zx zm → iw_L l D cy ax am X 1200 [(0, .ref b), (1, .ref (ax 0)), (2, .ref (am 0)), (3, .int x3)] [] zx zm) : iw_L l D cy ax am X 1144 [(0, .ref b), (1, .ref (ax 0)), (2, .ref (am 0)), (3, .int x3)] [] zx zm := by
  obtain ⟨r, zx1, zm1, e1, e2, hr1⟩ := st_ideaOf hr (xs (x3 + 1).toNatClampNeg) (xs (x3 + 2).toNatClampNeg) 
  refine L_aln hC dL_law_1144 1 rfl ?_
  refine L_aln hC dL_law_1145 0 rfl ?_
  refine L_iln hC dL_law_1146 3 rfl ?_
  refine L_ic (x := 1) hC dL_law_1147 (by decide) ?_
  refine L_iadd hC dL_law_1148 ?_
  refine L_sld hC (hi 1 (Or.inl rfl)) dL_law_1149 ?_
  refine L_aln hC dL_law_1150 0 rfl ?_
  refine L_iln hC dL_law_1151 3 rfl ?_
  refine L_ic (x := 2) hC dL_law_1152 (by decide) ?_
  refine L_iadd hC dL_law_1153 ?_
  refine L_sld hC (hi 2 (Or.inr (Or.inl rfl))) dL_law_1154 ?_
  refine L_cX [] hC cv_L_125 (kX8_ideaOf (iw_GG l D cy ax) _ _ _) e1 rfl rfl (Nat.le_of_ble_eq_true rfl) ⟨by decide, by decide⟩ dL_law_1155 ?_
  refine L_aln hC dL_law_1158 2 rfl ?_
  refine L_aln hC dL_law_1159 0 rfl ?_
  refine L_iln hC dL_law_1160 3 rfl ?_
  refine L_ic (x := 1) hC dL_law_1161 (by decide) ?_
  refine L_iadd hC dL_law_1162 ?_
  refine L_sld hC (hi 1 (Or.inl rfl)) dL_law_1163 ?_
  refine L_aln hC dL_law_1164 0 rfl ?_
  refine L_iln hC dL_law_1165 3 rfl ?_
  refine L_ic (x := 2) hC dL_law_1166 (by decide) ?_
  refine L_iadd hC dL_law_1167 ?_
  refine L_sld hC (hi 2 (Or.inr (Or.inl rfl))) dL_law_1168 ?_
  refine L_cM [.int _] hC cv_L_128 (kX9_ideaOf (iw_GG l D cy am) _ _ _) e2 rfl rfl (Nat.le_of_ble_eq_true rfl) ⟨by decide, by decide⟩ dL_law_1169 ?_
  refine L_eq 1200 hC dL_law_1172 (by decide) ?_
  exact kk _ _ hr1
set_option maxRecDepth 100000 in
set_option maxHeartbeats 4000000 in
theorem lw_c27 {l : Launch} {D : va_G} {cy : FieldType → ClassId} {ax am : Nat → Nat} {X : iw_X} {b L : Nat} {xs : Nat → Int32} {x3 : Int32} {zx zm : iw_M} (hC : iw_LC l D cy ax am X b L xs) (hr : iw_Rel zx zm) (hi : ∀ c : Int32, (c = 1 ∨ c = 2 ∨ c = 3 ∨ c = 4) → vp_in (x3 + c) L) (kk : ∀ zx zm : iw_M, iw_Rel zx zm → iw_L l D cy ax am X 1200 [(0, .ref b), (1, .ref (ax 0)), (2, .ref (am 0)), (3, .int x3)] [] zx zm) : iw_L l D cy ax am X 1177 [(0, .ref b), (1, .ref (ax 0)), (2, .ref (am 0)), (3, .int x3)] [] zx zm := by
  obtain ⟨r, zx1, zm1, e1, e2, hr1⟩ := st_count hr (xs (x3 + 1).toNatClampNeg) 
  refine L_aln hC dL_law_1177 1 rfl ?_
  refine L_aln hC dL_law_1178 0 rfl ?_
  refine L_iln hC dL_law_1179 3 rfl ?_
  refine L_ic (x := 1) hC dL_law_1180 (by decide) ?_
  refine L_iadd hC dL_law_1181 ?_
  refine L_sld hC (hi 1 (Or.inl rfl)) dL_law_1182 ?_
  refine L_cX [] hC cv_L_129 (kX8_count (iw_GG l D cy ax) _ _) e1 rfl rfl (Nat.le_of_ble_eq_true rfl) ⟨by decide, by decide⟩ dL_law_1183 ?_
  refine L_aln hC dL_law_1186 2 rfl ?_
  refine L_aln hC dL_law_1187 0 rfl ?_
  refine L_iln hC dL_law_1188 3 rfl ?_
  refine L_ic (x := 1) hC dL_law_1189 (by decide) ?_
  refine L_iadd hC dL_law_1190 ?_
  refine L_sld hC (hi 1 (Or.inl rfl)) dL_law_1191 ?_
  refine L_cM [.int _] hC cv_L_132 (kX9_count (iw_GG l D cy am) _ _) e2 rfl rfl (Nat.le_of_ble_eq_true rfl) ⟨by decide, by decide⟩ dL_law_1192 ?_
  refine L_eq 1200 hC dL_law_1195 (by decide) ?_
  exact kk _ _ hr1
def iw_al (P : Nat → Prop) : List Nat → Prop
  | [] => True
  | t :: ts => P t ∧ iw_al P ts
theorem iw_al_n {P : Nat → Prop} : iw_al P [] := trivial
theorem iw_al_c {P : Nat → Prop} {t : Nat} {ts : List Nat} (h : P t) (h2 : iw_al P ts) : iw_al P (t :: ts) := ⟨h, h2⟩
theorem iw_al_get {P : Nat → Prop} : ∀ (ts : List Nat), iw_al P ts → ∀ (j t : Nat), ts[j]? = some t → P t
  | [], _, j, t, h => by simp at h
  | a :: ts, h, 0, t, h2 => by simp at h2; subst h2; exact h.1
  | a :: ts, h, j + 1, t, h2 => iw_al_get ts h.2 j t (by simpa using h2)
theorem L_ts {l : Launch} {D : va_G} {cy : FieldType → ClassId} {ax am : Nat → Nat} {X : iw_X} {b L : Nat} {xs : Nat → Int32} {pc : Nat} {lv : List (Nat × Value)} {st : List Value} {zx zm : iw_M} {x : Int32} {dflt hi : Int} {offs : Array Int} {len : Nat} (tg : List Nat) (td : Nat) (hC : iw_LC l D cy ax am X b L xs) (hdg : decode code pc = .ok (.tableswitch dflt 0 hi offs, len)) (hh : hi + 1 = tg.length) (ht : ∀ j, j < tg.length → (offs[j]?).map (fun f => (pc : Int) + f) = (tg[j]?).map (fun t => (t : Int))) (htd : (pc : Int) + dflt = (td : Int))
    (kd : iw_L l D cy ax am X td lv st zx zm) (kk : iw_al (fun t => iw_L l D cy ax am X t lv st zx zm) tg) : iw_L l D cy ax am X pc lv (.int x :: st) zx zm := by
  intro H locs ls hP hM hS hl
  by_cases c1 : x.toInt < 0 ∨ hi < x.toInt
  · exact lv_tableOut hC.1.1 hC.1.2.1 hdg c1 htd (kd H locs ls hP hM hS hl)
  · have hj2 : x.toInt.toNat < tg.length := by omega
    have e1 := ht x.toInt.toNat hj2
    have e2 : tg[x.toInt.toNat]? = some tg[x.toInt.toNat] := List.getElem?_eq_getElem hj2
    rw [e2] at e1
    cases e3 : offs[x.toInt.toNat]? with
    | none => rw [e3] at e1; cases e1
    | some f =>
      rw [e3] at e1
      exact lv_tableIn hC.1.1 hC.1.2.1 hdg (by omega) (by omega) (off := f) (by rw [Int.sub_zero]; exact e3) (by simpa using e1) (iw_al_get tg kk _ _ e2 H locs ls hP hM hS hl)
set_option maxRecDepth 100000 in
set_option maxHeartbeats 4000000 in
theorem lw_body {l : Launch} {D : va_G} {cy : FieldType → ClassId} {ax am : Nat → Nat} {X : iw_X} {b L : Nat} {xs : Nat → Int32} {x3 : Int32} {zx zm : iw_M} (hC : iw_LC l D cy ax am X b L xs) (hr : iw_Rel zx zm) (hi : ∀ c : Int32, (c = 1 ∨ c = 2 ∨ c = 3 ∨ c = 4) → vp_in (x3 + c) L) (kk : ∀ zx zm : iw_M, iw_Rel zx zm → iw_L l D cy ax am X 1200 [(0, .ref b), (1, .ref (ax 0)), (2, .ref (am 0)), (3, .int x3)] [] zx zm) (h0 : vp_in x3 L) : iw_L l D cy ax am X 26 [(0, .ref b), (1, .ref (ax 0)), (2, .ref (am 0)), (3, .int x3)] [] zx zm := by
  refine L_aln hC dL_law_26 0 rfl ?_
  refine L_iln hC dL_law_27 3 rfl ?_
  refine L_sld hC h0 dL_law_28 ?_
  refine L_bip (x := 31) hC dL_law_29 (by decide) ?_
  refine L_iand hC dL_law_31 ?_
  exact L_ts [160, 183, 242, 295, 328, 361, 394, 417, 440, 463, 512, 545, 578, 679, 702, 745, 814, 857, 890, 913, 966, 989, 1022, 1045, 1068, 1111, 1144, 1177] 1200 hC dL_law_32 (by decide) (by decide) (by decide) (kk zx zm hr) (iw_al_c (lw_c0 hC hr hi kk) (iw_al_c (lw_c1 hC hr hi kk) (iw_al_c (lw_c2 hC hr hi kk) (iw_al_c (lw_c3 hC hr hi kk) (iw_al_c (lw_c4 hC hr hi kk) (iw_al_c (lw_c5 hC hr hi kk) (iw_al_c (lw_c6 hC hr hi kk) (iw_al_c (lw_c7 hC hr hi kk) (iw_al_c (lw_c8 hC hr hi kk) (iw_al_c (lw_c9 hC hr hi kk) (iw_al_c (lw_c10 hC hr hi kk) (iw_al_c (lw_c11 hC hr hi kk) (iw_al_c (lw_c12 hC hr hi kk) (iw_al_c (lw_c13 hC hr hi kk) (iw_al_c (lw_c14 hC hr hi kk) (iw_al_c (lw_c15 hC hr hi kk) (iw_al_c (lw_c16 hC hr hi kk) (iw_al_c (lw_c17 hC hr hi kk) (iw_al_c (lw_c18 hC hr hi kk) (iw_al_c (lw_c19 hC hr hi kk) (iw_al_c (lw_c20 hC hr hi kk) (iw_al_c (lw_c21 hC hr hi kk) (iw_al_c (lw_c22 hC hr hi kk) (iw_al_c (lw_c23 hC hr hi kk) (iw_al_c (lw_c24 hC hr hi kk) (iw_al_c (lw_c25 hC hr hi kk) (iw_al_c (lw_c26 hC hr hi kk) (iw_al_c (lw_c27 hC hr hi kk) iw_al_n))))))))))))))))))))))))))))
set_option maxRecDepth 100000 in
set_option maxHeartbeats 4000000 in
theorem lw_loop {l : Launch} {D : va_G} {cy : FieldType → ClassId} {ax am : Nat → Nat} {X : iw_X} {b L : Nat} {xs : Nat → Int32} (hL : L ≤ 2560) (hC : iw_LC l D cy ax am X b L xs) : ∀ (n j : Nat) (zx zm : iw_M), L ≤ j + n → j ≤ 3000 → iw_Rel zx zm → iw_L l D cy ax am X 18 [(0, .ref b), (1, .ref (ax 0)), (2, .ref (am 0)), (3, .int (nI j))] [] zx zm := by
  intro n
  induction n with
  | zero =>
    intro j zx zm h1 h2 hr
    refine L_iln hC dL_law_18 3 rfl ?_
    refine L_aln hC dL_law_19 0 rfl ?_
    refine L_slen hC dL_law_20 ?_
    refine L_ic (x := 5) hC dL_law_21 (by decide) ?_
    refine L_isub hC dL_law_22 ?_
    intro H locs ls hP hM hS hl
    refine lv_icmp_gt (tgt := 1206) hC.1.1 hC.1.2.1 dL_law_23 (by decide) (fun _ => ?_) (fun c => ?_)
    · refine lv_iconst (v := 1) hC.1.1 hC.1.2.1 dL_law_1206 (by decide) ?_
      refine va_forget (fun q hq => hS.2.2 q hq) ?_
      have hag : X.2.2.2.2.1 = #[Value.ref b] := hC.2.2.2.2.2.2.2.1
      rw [hag]
      exact lw_ret hC.1.1 hC.1.2.1 hC.2.2.2.2.2.2.2.2.2 hC.2.2.2.2.2.2.2.2.1 dL_law_1207
    · exfalso
      apply c
      rw [show (5 : Int32) = nI 5 from rfl, Int32.lt_iff_toInt_lt, pk_sub_toInt (a := L) (b := 5) (by omega) (by decide), nI_toInt (by omega)]
      omega
  | succ n ih =>
    intro j zx zm h1 h2 hr
    refine L_iln hC dL_law_18 3 rfl ?_
    refine L_aln hC dL_law_19 0 rfl ?_
    refine L_slen hC dL_law_20 ?_
    refine L_ic (x := 5) hC dL_law_21 (by decide) ?_
    refine L_isub hC dL_law_22 ?_
    intro H locs ls hP hM hS hl
    refine lv_icmp_gt (tgt := 1206) hC.1.1 hC.1.2.1 dL_law_23 (by decide) (fun _ => ?_) (fun c => ?_)
    · refine lv_iconst (v := 1) hC.1.1 hC.1.2.1 dL_law_1206 (by decide) ?_
      refine va_forget (fun q hq => hS.2.2 q hq) ?_
      have hag : X.2.2.2.2.1 = #[Value.ref b] := hC.2.2.2.2.2.2.2.1
      rw [hag]
      exact lw_ret hC.1.1 hC.1.2.1 hC.2.2.2.2.2.2.2.2.2 hC.2.2.2.2.2.2.2.2.1 dL_law_1207
    · have hj : j + 5 ≤ L := by
        rcases Nat.lt_or_ge L (j + 5) with q | q
        · exfalso
          apply c
          rw [show (5 : Int32) = nI 5 from rfl, Int32.lt_iff_toInt_lt, pk_sub_toInt (a := L) (b := 5) (by omega) (by decide), nI_toInt (by omega)]
          omega
        · exact q
      have hin : ∀ c : Int32, (c = 1 ∨ c = 2 ∨ c = 3 ∨ c = 4) → vp_in (nI j + c) L := by
        intro c hc
        rcases hc with rfl | rfl | rfl | rfl
        · exact vp_in_nI (n := j + 1) (by omega) (by omega) |> fun h => by rw [← nI_add] at h; exact h
        · exact vp_in_nI (n := j + 2) (by omega) (by omega) |> fun h => by rw [← nI_add] at h; exact h
        · exact vp_in_nI (n := j + 3) (by omega) (by omega) |> fun h => by rw [← nI_add] at h; exact h
        · exact vp_in_nI (n := j + 4) (by omega) (by omega) |> fun h => by rw [← nI_add] at h; exact h
      refine lw_body hC hr hin (fun zx zm hr => ?_) (vp_in_nI (by omega) (by omega)) H locs ls hP hM hS hl
      intro H locs ls hP hM hS hl
      refine lv_iinc (v := nI (j + 5)) (lv' := [(3, .int (nI (j + 5))), (0, .ref b), (1, .ref (ax 0)), (2, .ref (am 0))]) hC.1.1 hC.1.2.1 dL_law_1200 hl (k := 3) rfl (by rw [← nI_add]; rfl) (by decide) rfl (fun ls hl => ?_)
      refine lv_goto (tgt := 18) hC.1.1 hC.1.2.1 dL_law_1203 (by decide) ?_
      exact ih (j + 5) zx zm (by omega) (by omega) hr H locs ls hP hM hS (lv_sub hl [1, 2, 3, 0] rfl)
