/-! the law, a case each: the class's call, then the reference's -/
theorem lg_cmp_self (w : Int64) : lg_cmp w w = 0 := by
  unfold lg_cmp
  simp
theorem law_c0 {bb L : Nat} {xs : Nat → Int32} {M : Mem} {i : Nat} (hL : L ≤ 2560) (hi : i + 5 ≤ L) (hI : Inv M) (kk : ∀ M2, Inv M2 → G RL code 4 ret (EL bb L xs) 850 [(0, .ref 43), (1, .ref 0), (2, .ref 31), (3, .int (zI i))] [] M2) : G RL code 4 ret (EL bb L xs) 140 [(0, .ref 43), (1, .ref 0), (2, .ref 31), (3, .int (zI i))] [] M := by
  obtain ⟨Q1, e1, k1⟩ := pr_records hI (xs (zI i + zI 1).toNatClampNeg)
  refine g_aload_n rfl dL_law_140 ?_
  refine g_aload_n rfl dL_law_141 ?_
  refine g_iload_n rfl dL_law_142 ?_
  refine g_iconst dL_law_143 ?_
  refine g_iadd dL_law_144 ?_
  refine gl_sld (in_d 1 (by decide) (by decide) hL hi) dL_law_145 ?_
  refine gi_L_13 (by decide) rfl e1 rfl rfl ⟨Nat.le_of_ble_eq_true rfl, Nat.le_of_ble_eq_true rfl, Nat.le_of_ble_eq_true rfl, Nat.le_of_ble_eq_true rfl⟩ (Nat.le_of_ble_eq_true rfl) dL_law_146 (fun r M1 hq => ?_)
  obtain ⟨w, rfl, Q2, e2, k2⟩ := k1 r M1 hq
  refine g_aload_n rfl dL_law_149 ?_
  refine g_aload_n rfl dL_law_150 ?_
  refine g_iload_n rfl dL_law_151 ?_
  refine g_iconst dL_law_152 ?_
  refine g_iadd dL_law_153 ?_
  refine gl_sld (in_d 1 (by decide) (by decide) hL hi) dL_law_154 ?_
  refine gi_L_17 (by decide) rfl e2 rfl rfl ⟨Nat.le_of_ble_eq_true rfl, Nat.le_of_ble_eq_true rfl, Nat.le_of_ble_eq_true rfl, Nat.le_of_ble_eq_true rfl⟩ (Nat.le_of_ble_eq_true rfl) dL_law_155 (fun r' M2 hq2 => ?_)
  obtain ⟨rfl, hI2⟩ := k2 r' M2 hq2
  exact g_icmp_eq (tgt := 850) dL_law_158 (by decide) (fun _ => kk M2 hI2) (fun c => absurd rfl c)
theorem law_c1 {bb L : Nat} {xs : Nat → Int32} {M : Mem} {i : Nat} (hL : L ≤ 2560) (hi : i + 5 ≤ L) (hI : Inv M) (kk : ∀ M2, Inv M2 → G RL code 4 ret (EL bb L xs) 850 [(0, .ref 43), (1, .ref 0), (2, .ref 31), (3, .int (zI i))] [] M2) : G RL code 4 ret (EL bb L xs) 163 [(0, .ref 43), (1, .ref 0), (2, .ref 31), (3, .int (zI i))] [] M := by
  obtain ⟨Q1, e1, k1⟩ := pr_put hI (xs (zI i + zI 1).toNatClampNeg) (xs (zI i + zI 2).toNatClampNeg)
  refine g_aload_n rfl dL_law_163 ?_
  refine g_aload_n rfl dL_law_164 ?_
  refine g_iload_n rfl dL_law_165 ?_
  refine g_iconst dL_law_166 ?_
  refine g_iadd dL_law_167 ?_
  refine gl_sld (in_d 1 (by decide) (by decide) hL hi) dL_law_168 ?_
  refine g_aload_n rfl dL_law_169 ?_
  refine g_iload_n rfl dL_law_170 ?_
  refine g_iconst dL_law_171 ?_
  refine g_iadd dL_law_172 ?_
  refine gl_sld (in_d 2 (by decide) (by decide) hL hi) dL_law_173 ?_
  refine gi_L_18 (by decide) rfl e1 rfl rfl ⟨Nat.le_of_ble_eq_true rfl, Nat.le_of_ble_eq_true rfl, Nat.le_of_ble_eq_true rfl, Nat.le_of_ble_eq_true rfl⟩ (Nat.le_of_ble_eq_true rfl) dL_law_174 (fun r M1 hq => ?_)
  obtain ⟨w, rfl, Q2, e2, k2⟩ := k1 r M1 hq
  refine g_aload_n rfl dL_law_177 ?_
  refine g_aload_n rfl dL_law_178 ?_
  refine g_iload_n rfl dL_law_179 ?_
  refine g_iconst dL_law_180 ?_
  refine g_iadd dL_law_181 ?_
  refine gl_sld (in_d 1 (by decide) (by decide) hL hi) dL_law_182 ?_
  refine g_aload_n rfl dL_law_183 ?_
  refine g_iload_n rfl dL_law_184 ?_
  refine g_iconst dL_law_185 ?_
  refine g_iadd dL_law_186 ?_
  refine gl_sld (in_d 2 (by decide) (by decide) hL hi) dL_law_187 ?_
  refine gi_L_22 (by decide) rfl e2 rfl rfl ⟨Nat.le_of_ble_eq_true rfl, Nat.le_of_ble_eq_true rfl, Nat.le_of_ble_eq_true rfl, Nat.le_of_ble_eq_true rfl⟩ (Nat.le_of_ble_eq_true rfl) dL_law_188 (fun r' M2 hq2 => ?_)
  obtain ⟨rfl, hI2⟩ := k2 r' M2 hq2
  exact g_icmp_eq (tgt := 850) dL_law_191 (by decide) (fun _ => kk M2 hI2) (fun c => absurd rfl c)
theorem law_c2 {bb L : Nat} {xs : Nat → Int32} {M : Mem} {i : Nat} (hL : L ≤ 2560) (hi : i + 5 ≤ L) (hI : Inv M) (kk : ∀ M2, Inv M2 → G RL code 4 ret (EL bb L xs) 850 [(0, .ref 43), (1, .ref 0), (2, .ref 31), (3, .int (zI i))] [] M2) : G RL code 4 ret (EL bb L xs) 196 [(0, .ref 43), (1, .ref 0), (2, .ref 31), (3, .int (zI i))] [] M := by
  obtain ⟨Q1, e1, k1⟩ := pr_record hI (xs (zI i + zI 1).toNatClampNeg)
  refine g_aload_n rfl dL_law_196 ?_
  refine g_aload_n rfl dL_law_197 ?_
  refine g_iload_n rfl dL_law_198 ?_
  refine g_iconst dL_law_199 ?_
  refine g_iadd dL_law_200 ?_
  refine gl_sld (in_d 1 (by decide) (by decide) hL hi) dL_law_201 ?_
  refine gi_L_23 (by decide) rfl e1 rfl rfl ⟨Nat.le_of_ble_eq_true rfl, Nat.le_of_ble_eq_true rfl, Nat.le_of_ble_eq_true rfl, Nat.le_of_ble_eq_true rfl⟩ (Nat.le_of_ble_eq_true rfl) dL_law_202 (fun r M1 hq => ?_)
  obtain ⟨w, rfl, Q2, e2, k2⟩ := k1 r M1 hq
  refine g_aload_n rfl dL_law_205 ?_
  refine g_aload_n rfl dL_law_206 ?_
  refine g_iload_n rfl dL_law_207 ?_
  refine g_iconst dL_law_208 ?_
  refine g_iadd dL_law_209 ?_
  refine gl_sld (in_d 1 (by decide) (by decide) hL hi) dL_law_210 ?_
  refine gi_L_26 (by decide) rfl e2 rfl rfl ⟨Nat.le_of_ble_eq_true rfl, Nat.le_of_ble_eq_true rfl, Nat.le_of_ble_eq_true rfl, Nat.le_of_ble_eq_true rfl⟩ (Nat.le_of_ble_eq_true rfl) dL_law_211 (fun r' M2 hq2 => ?_)
  obtain ⟨rfl, hI2⟩ := k2 r' M2 hq2
  exact g_icmp_eq (tgt := 850) dL_law_214 (by decide) (fun _ => kk M2 hI2) (fun c => absurd rfl c)
theorem law_c3 {bb L : Nat} {xs : Nat → Int32} {M : Mem} {i : Nat} (hL : L ≤ 2560) (hi : i + 5 ≤ L) (hI : Inv M) (kk : ∀ M2, Inv M2 → G RL code 4 ret (EL bb L xs) 850 [(0, .ref 43), (1, .ref 0), (2, .ref 31), (3, .int (zI i))] [] M2) : G RL code 4 ret (EL bb L xs) 219 [(0, .ref 43), (1, .ref 0), (2, .ref 31), (3, .int (zI i))] [] M := by
  obtain ⟨Q1, e1, k1⟩ := pr_store hI (xs (zI i + zI 1).toNatClampNeg) (xs (zI i + zI 2).toNatClampNeg) (xs (zI i + zI 3).toNatClampNeg)
  refine g_aload_n rfl dL_law_219 ?_
  refine g_aload_n rfl dL_law_220 ?_
  refine g_iload_n rfl dL_law_221 ?_
  refine g_iconst dL_law_222 ?_
  refine g_iadd dL_law_223 ?_
  refine gl_sld (in_d 1 (by decide) (by decide) hL hi) dL_law_224 ?_
  refine g_aload_n rfl dL_law_225 ?_
  refine g_iload_n rfl dL_law_226 ?_
  refine g_iconst dL_law_227 ?_
  refine g_iadd dL_law_228 ?_
  refine gl_sld (in_d 2 (by decide) (by decide) hL hi) dL_law_229 ?_
  refine g_aload_n rfl dL_law_230 ?_
  refine g_iload_n rfl dL_law_231 ?_
  refine g_iconst dL_law_232 ?_
  refine g_iadd dL_law_233 ?_
  refine gl_sld (in_d 3 (by decide) (by decide) hL hi) dL_law_234 ?_
  refine gi_L_27 (by decide) rfl e1 rfl rfl ⟨Nat.le_of_ble_eq_true rfl, Nat.le_of_ble_eq_true rfl, Nat.le_of_ble_eq_true rfl, Nat.le_of_ble_eq_true rfl⟩ (Nat.le_of_ble_eq_true rfl) dL_law_235 (fun r M1 hq => ?_)
  obtain ⟨w, rfl, Q2, e2, k2⟩ := k1 r M1 hq
  refine g_aload_n rfl dL_law_238 ?_
  refine g_aload_n rfl dL_law_239 ?_
  refine g_iload_n rfl dL_law_240 ?_
  refine g_iconst dL_law_241 ?_
  refine g_iadd dL_law_242 ?_
  refine gl_sld (in_d 1 (by decide) (by decide) hL hi) dL_law_243 ?_
  refine g_aload_n rfl dL_law_244 ?_
  refine g_iload_n rfl dL_law_245 ?_
  refine g_iconst dL_law_246 ?_
  refine g_iadd dL_law_247 ?_
  refine gl_sld (in_d 2 (by decide) (by decide) hL hi) dL_law_248 ?_
  refine g_aload_n rfl dL_law_249 ?_
  refine g_iload_n rfl dL_law_250 ?_
  refine g_iconst dL_law_251 ?_
  refine g_iadd dL_law_252 ?_
  refine gl_sld (in_d 3 (by decide) (by decide) hL hi) dL_law_253 ?_
  refine gi_L_31 (by decide) rfl e2 rfl rfl ⟨Nat.le_of_ble_eq_true rfl, Nat.le_of_ble_eq_true rfl, Nat.le_of_ble_eq_true rfl, Nat.le_of_ble_eq_true rfl⟩ (Nat.le_of_ble_eq_true rfl) dL_law_254 (fun r' M2 hq2 => ?_)
  obtain ⟨rfl, hI2⟩ := k2 r' M2 hq2
  exact g_icmp_eq (tgt := 850) dL_law_257 (by decide) (fun _ => kk M2 hI2) (fun c => absurd rfl c)
theorem law_c4 {bb L : Nat} {xs : Nat → Int32} {M : Mem} {i : Nat} (hL : L ≤ 2560) (hi : i + 5 ≤ L) (hI : Inv M) (kk : ∀ M2, Inv M2 → G RL code 4 ret (EL bb L xs) 850 [(0, .ref 43), (1, .ref 0), (2, .ref 31), (3, .int (zI i))] [] M2) : G RL code 4 ret (EL bb L xs) 262 [(0, .ref 43), (1, .ref 0), (2, .ref 31), (3, .int (zI i))] [] M := by
  obtain ⟨Q1, e1, k1⟩ := pr_taken hI (xs (zI i + zI 1).toNatClampNeg) (xs (zI i + zI 2).toNatClampNeg) (xs (zI i + zI 3).toNatClampNeg)
  refine g_aload_n rfl dL_law_262 ?_
  refine g_aload_n rfl dL_law_263 ?_
  refine g_iload_n rfl dL_law_264 ?_
  refine g_iconst dL_law_265 ?_
  refine g_iadd dL_law_266 ?_
  refine gl_sld (in_d 1 (by decide) (by decide) hL hi) dL_law_267 ?_
  refine g_aload_n rfl dL_law_268 ?_
  refine g_iload_n rfl dL_law_269 ?_
  refine g_iconst dL_law_270 ?_
  refine g_iadd dL_law_271 ?_
  refine gl_sld (in_d 2 (by decide) (by decide) hL hi) dL_law_272 ?_
  refine g_aload_n rfl dL_law_273 ?_
  refine g_iload_n rfl dL_law_274 ?_
  refine g_iconst dL_law_275 ?_
  refine g_iadd dL_law_276 ?_
  refine gl_sld (in_d 3 (by decide) (by decide) hL hi) dL_law_277 ?_
  refine gi_L_32 (by decide) rfl e1 rfl rfl ⟨Nat.le_of_ble_eq_true rfl, Nat.le_of_ble_eq_true rfl, Nat.le_of_ble_eq_true rfl, Nat.le_of_ble_eq_true rfl⟩ (Nat.le_of_ble_eq_true rfl) dL_law_278 (fun r M1 hq => ?_)
  obtain ⟨w, rfl, Q2, e2, k2⟩ := k1 r M1 hq
  refine g_aload_n rfl dL_law_281 ?_
  refine g_aload_n rfl dL_law_282 ?_
  refine g_iload_n rfl dL_law_283 ?_
  refine g_iconst dL_law_284 ?_
  refine g_iadd dL_law_285 ?_
  refine gl_sld (in_d 1 (by decide) (by decide) hL hi) dL_law_286 ?_
  refine g_aload_n rfl dL_law_287 ?_
  refine g_iload_n rfl dL_law_288 ?_
  refine g_iconst dL_law_289 ?_
  refine g_iadd dL_law_290 ?_
  refine gl_sld (in_d 2 (by decide) (by decide) hL hi) dL_law_291 ?_
  refine g_aload_n rfl dL_law_292 ?_
  refine g_iload_n rfl dL_law_293 ?_
  refine g_iconst dL_law_294 ?_
  refine g_iadd dL_law_295 ?_
  refine gl_sld (in_d 3 (by decide) (by decide) hL hi) dL_law_296 ?_
  refine gi_L_35 (by decide) rfl e2 rfl rfl ⟨Nat.le_of_ble_eq_true rfl, Nat.le_of_ble_eq_true rfl, Nat.le_of_ble_eq_true rfl, Nat.le_of_ble_eq_true rfl⟩ (Nat.le_of_ble_eq_true rfl) dL_law_297 (fun r' M2 hq2 => ?_)
  obtain ⟨rfl, hI2⟩ := k2 r' M2 hq2
  exact g_icmp_eq (tgt := 850) dL_law_300 (by decide) (fun _ => kk M2 hI2) (fun c => absurd rfl c)
theorem law_c5 {bb L : Nat} {xs : Nat → Int32} {M : Mem} {i : Nat} (hL : L ≤ 2560) (hi : i + 5 ≤ L) (hI : Inv M) (kk : ∀ M2, Inv M2 → G RL code 4 ret (EL bb L xs) 850 [(0, .ref 43), (1, .ref 0), (2, .ref 31), (3, .int (zI i))] [] M2) : G RL code 4 ret (EL bb L xs) 305 [(0, .ref 43), (1, .ref 0), (2, .ref 31), (3, .int (zI i))] [] M := by
  obtain ⟨Q1, e1, k1⟩ := pr_copy hI (xs (zI i + zI 1).toNatClampNeg) (xs (zI i + zI 2).toNatClampNeg)
  refine g_aload_n rfl dL_law_305 ?_
  refine g_aload_n rfl dL_law_306 ?_
  refine g_iload_n rfl dL_law_307 ?_
  refine g_iconst dL_law_308 ?_
  refine g_iadd dL_law_309 ?_
  refine gl_sld (in_d 1 (by decide) (by decide) hL hi) dL_law_310 ?_
  refine g_aload_n rfl dL_law_311 ?_
  refine g_iload_n rfl dL_law_312 ?_
  refine g_iconst dL_law_313 ?_
  refine g_iadd dL_law_314 ?_
  refine gl_sld (in_d 2 (by decide) (by decide) hL hi) dL_law_315 ?_
  refine gi_L_36 (by decide) rfl e1 rfl rfl ⟨Nat.le_of_ble_eq_true rfl, Nat.le_of_ble_eq_true rfl, Nat.le_of_ble_eq_true rfl, Nat.le_of_ble_eq_true rfl⟩ (Nat.le_of_ble_eq_true rfl) dL_law_316 (fun r M1 hq => ?_)
  obtain ⟨w, rfl, Q2, e2, k2⟩ := k1 r M1 hq
  refine g_aload_n rfl dL_law_319 ?_
  refine g_aload_n rfl dL_law_320 ?_
  refine g_iload_n rfl dL_law_321 ?_
  refine g_iconst dL_law_322 ?_
  refine g_iadd dL_law_323 ?_
  refine gl_sld (in_d 1 (by decide) (by decide) hL hi) dL_law_324 ?_
  refine g_aload_n rfl dL_law_325 ?_
  refine g_iload_n rfl dL_law_326 ?_
  refine g_iconst dL_law_327 ?_
  refine g_iadd dL_law_328 ?_
  refine gl_sld (in_d 2 (by decide) (by decide) hL hi) dL_law_329 ?_
  refine gi_L_39 (by decide) rfl e2 rfl rfl ⟨Nat.le_of_ble_eq_true rfl, Nat.le_of_ble_eq_true rfl, Nat.le_of_ble_eq_true rfl, Nat.le_of_ble_eq_true rfl⟩ (Nat.le_of_ble_eq_true rfl) dL_law_330 (fun r' M2 hq2 => ?_)
  obtain ⟨rfl, hI2⟩ := k2 r' M2 hq2
  exact g_icmp_eq (tgt := 850) dL_law_333 (by decide) (fun _ => kk M2 hI2) (fun c => absurd rfl c)
theorem law_c6 {bb L : Nat} {xs : Nat → Int32} {M : Mem} {i : Nat} (hL : L ≤ 2560) (hi : i + 5 ≤ L) (hI : Inv M) (kk : ∀ M2, Inv M2 → G RL code 4 ret (EL bb L xs) 850 [(0, .ref 43), (1, .ref 0), (2, .ref 31), (3, .int (zI i))] [] M2) : G RL code 4 ret (EL bb L xs) 338 [(0, .ref 43), (1, .ref 0), (2, .ref 31), (3, .int (zI i))] [] M := by
  obtain ⟨Q1, e1, k1⟩ := pr_sum hI (xs (zI i + zI 1).toNatClampNeg) (xs (zI i + zI 2).toNatClampNeg) (xs (zI i + zI 3).toNatClampNeg)
  refine g_aload_n rfl dL_law_338 ?_
  refine g_aload_n rfl dL_law_339 ?_
  refine g_iload_n rfl dL_law_340 ?_
  refine g_iconst dL_law_341 ?_
  refine g_iadd dL_law_342 ?_
  refine gl_sld (in_d 1 (by decide) (by decide) hL hi) dL_law_343 ?_
  refine g_aload_n rfl dL_law_344 ?_
  refine g_iload_n rfl dL_law_345 ?_
  refine g_iconst dL_law_346 ?_
  refine g_iadd dL_law_347 ?_
  refine gl_sld (in_d 2 (by decide) (by decide) hL hi) dL_law_348 ?_
  refine g_aload_n rfl dL_law_349 ?_
  refine g_iload_n rfl dL_law_350 ?_
  refine g_iconst dL_law_351 ?_
  refine g_iadd dL_law_352 ?_
  refine gl_sld (in_d 3 (by decide) (by decide) hL hi) dL_law_353 ?_
  refine gi_L_40 (by decide) rfl e1 rfl rfl ⟨Nat.le_of_ble_eq_true rfl, Nat.le_of_ble_eq_true rfl, Nat.le_of_ble_eq_true rfl, Nat.le_of_ble_eq_true rfl⟩ (Nat.le_of_ble_eq_true rfl) dL_law_354 (fun r M1 hq => ?_)
  obtain ⟨w, rfl, Q2, e2, k2⟩ := k1 r M1 hq
  refine g_aload_n rfl dL_law_357 ?_
  refine g_aload_n rfl dL_law_358 ?_
  refine g_iload_n rfl dL_law_359 ?_
  refine g_iconst dL_law_360 ?_
  refine g_iadd dL_law_361 ?_
  refine gl_sld (in_d 1 (by decide) (by decide) hL hi) dL_law_362 ?_
  refine g_aload_n rfl dL_law_363 ?_
  refine g_iload_n rfl dL_law_364 ?_
  refine g_iconst dL_law_365 ?_
  refine g_iadd dL_law_366 ?_
  refine gl_sld (in_d 2 (by decide) (by decide) hL hi) dL_law_367 ?_
  refine g_aload_n rfl dL_law_368 ?_
  refine g_iload_n rfl dL_law_369 ?_
  refine g_iconst dL_law_370 ?_
  refine g_iadd dL_law_371 ?_
  refine gl_sld (in_d 3 (by decide) (by decide) hL hi) dL_law_372 ?_
  refine gi_L_43 (by decide) rfl e2 rfl rfl ⟨Nat.le_of_ble_eq_true rfl, Nat.le_of_ble_eq_true rfl, Nat.le_of_ble_eq_true rfl, Nat.le_of_ble_eq_true rfl⟩ (Nat.le_of_ble_eq_true rfl) dL_law_373 (fun r' M2 hq2 => ?_)
  obtain ⟨rfl, hI2⟩ := k2 r' M2 hq2
  exact g_icmp_eq (tgt := 850) dL_law_376 (by decide) (fun _ => kk M2 hI2) (fun c => absurd rfl c)
theorem law_c7 {bb L : Nat} {xs : Nat → Int32} {M : Mem} {i : Nat} (hL : L ≤ 2560) (hi : i + 5 ≤ L) (hI : Inv M) (kk : ∀ M2, Inv M2 → G RL code 4 ret (EL bb L xs) 850 [(0, .ref 43), (1, .ref 0), (2, .ref 31), (3, .int (zI i))] [] M2) : G RL code 4 ret (EL bb L xs) 381 [(0, .ref 43), (1, .ref 0), (2, .ref 31), (3, .int (zI i))] [] M := by
  obtain ⟨Q1, e1, k1⟩ := pr_ask hI (xs (zI i + zI 1).toNatClampNeg) (xs (zI i + zI 2).toNatClampNeg) (xs (zI i + zI 3).toNatClampNeg)
  refine g_aload_n rfl dL_law_381 ?_
  refine g_aload_n rfl dL_law_382 ?_
  refine g_iload_n rfl dL_law_383 ?_
  refine g_iconst dL_law_384 ?_
  refine g_iadd dL_law_385 ?_
  refine gl_sld (in_d 1 (by decide) (by decide) hL hi) dL_law_386 ?_
  refine g_aload_n rfl dL_law_387 ?_
  refine g_iload_n rfl dL_law_388 ?_
  refine g_iconst dL_law_389 ?_
  refine g_iadd dL_law_390 ?_
  refine gl_sld (in_d 2 (by decide) (by decide) hL hi) dL_law_391 ?_
  refine g_aload_n rfl dL_law_392 ?_
  refine g_iload_n rfl dL_law_393 ?_
  refine g_iconst dL_law_394 ?_
  refine g_iadd dL_law_395 ?_
  refine gl_sld (in_d 3 (by decide) (by decide) hL hi) dL_law_396 ?_
  refine gi_L_44 (by decide) rfl e1 rfl rfl ⟨Nat.le_of_ble_eq_true rfl, Nat.le_of_ble_eq_true rfl, Nat.le_of_ble_eq_true rfl, Nat.le_of_ble_eq_true rfl⟩ (Nat.le_of_ble_eq_true rfl) dL_law_397 (fun r M1 hq => ?_)
  obtain ⟨w, rfl, Q2, e2, k2⟩ := k1 r M1 hq
  refine g_aload_n rfl dL_law_400 ?_
  refine g_aload_n rfl dL_law_401 ?_
  refine g_iload_n rfl dL_law_402 ?_
  refine g_iconst dL_law_403 ?_
  refine g_iadd dL_law_404 ?_
  refine gl_sld (in_d 1 (by decide) (by decide) hL hi) dL_law_405 ?_
  refine g_aload_n rfl dL_law_406 ?_
  refine g_iload_n rfl dL_law_407 ?_
  refine g_iconst dL_law_408 ?_
  refine g_iadd dL_law_409 ?_
  refine gl_sld (in_d 2 (by decide) (by decide) hL hi) dL_law_410 ?_
  refine g_aload_n rfl dL_law_411 ?_
  refine g_iload_n rfl dL_law_412 ?_
  refine g_iconst dL_law_413 ?_
  refine g_iadd dL_law_414 ?_
  refine gl_sld (in_d 3 (by decide) (by decide) hL hi) dL_law_415 ?_
  refine gi_L_47 (by decide) rfl e2 rfl rfl ⟨Nat.le_of_ble_eq_true rfl, Nat.le_of_ble_eq_true rfl, Nat.le_of_ble_eq_true rfl, Nat.le_of_ble_eq_true rfl⟩ (Nat.le_of_ble_eq_true rfl) dL_law_416 (fun r' M2 hq2 => ?_)
  obtain ⟨rfl, hI2⟩ := k2 r' M2 hq2
  exact g_icmp_eq (tgt := 850) dL_law_419 (by decide) (fun _ => kk M2 hI2) (fun c => absurd rfl c)
theorem law_c8 {bb L : Nat} {xs : Nat → Int32} {M : Mem} {i : Nat} (hL : L ≤ 2560) (hi : i + 5 ≤ L) (hI : Inv M) (kk : ∀ M2, Inv M2 → G RL code 4 ret (EL bb L xs) 850 [(0, .ref 43), (1, .ref 0), (2, .ref 31), (3, .int (zI i))] [] M2) : G RL code 4 ret (EL bb L xs) 424 [(0, .ref 43), (1, .ref 0), (2, .ref 31), (3, .int (zI i))] [] M := by
  obtain ⟨Q1, e1, k1⟩ := pr_veil hI (xs (zI i + zI 1).toNatClampNeg)
  refine g_aload_n rfl dL_law_424 ?_
  refine g_aload_n rfl dL_law_425 ?_
  refine g_iload_n rfl dL_law_426 ?_
  refine g_iconst dL_law_427 ?_
  refine g_iadd dL_law_428 ?_
  refine gl_sld (in_d 1 (by decide) (by decide) hL hi) dL_law_429 ?_
  refine gi_L_48 (by decide) rfl e1 rfl rfl ⟨Nat.le_of_ble_eq_true rfl, Nat.le_of_ble_eq_true rfl, Nat.le_of_ble_eq_true rfl, Nat.le_of_ble_eq_true rfl⟩ (Nat.le_of_ble_eq_true rfl) dL_law_430 (fun r M1 hq => ?_)
  obtain ⟨w, rfl, Q2, e2, k2⟩ := k1 r M1 hq
  refine g_aload_n rfl dL_law_433 ?_
  refine g_aload_n rfl dL_law_434 ?_
  refine g_iload_n rfl dL_law_435 ?_
  refine g_iconst dL_law_436 ?_
  refine g_iadd dL_law_437 ?_
  refine gl_sld (in_d 1 (by decide) (by decide) hL hi) dL_law_438 ?_
  refine gi_L_51 (by decide) rfl e2 rfl rfl ⟨Nat.le_of_ble_eq_true rfl, Nat.le_of_ble_eq_true rfl, Nat.le_of_ble_eq_true rfl, Nat.le_of_ble_eq_true rfl⟩ (Nat.le_of_ble_eq_true rfl) dL_law_439 (fun r' M2 hq2 => ?_)
  obtain ⟨rfl, hI2⟩ := k2 r' M2 hq2
  exact g_icmp_eq (tgt := 850) dL_law_442 (by decide) (fun _ => kk M2 hI2) (fun c => absurd rfl c)
theorem law_c9 {bb L : Nat} {xs : Nat → Int32} {M : Mem} {i : Nat} (hL : L ≤ 2560) (hi : i + 5 ≤ L) (hI : Inv M) (kk : ∀ M2, Inv M2 → G RL code 4 ret (EL bb L xs) 850 [(0, .ref 43), (1, .ref 0), (2, .ref 31), (3, .int (zI i))] [] M2) : G RL code 4 ret (EL bb L xs) 447 [(0, .ref 43), (1, .ref 0), (2, .ref 31), (3, .int (zI i))] [] M := by
  obtain ⟨Q1, e1, k1⟩ := pr_point hI (xs (zI i + zI 1).toNatClampNeg) (xs (zI i + zI 2).toNatClampNeg)
  refine g_aload_n rfl dL_law_447 ?_
  refine g_aload_n rfl dL_law_448 ?_
  refine g_iload_n rfl dL_law_449 ?_
  refine g_iconst dL_law_450 ?_
  refine g_iadd dL_law_451 ?_
  refine gl_sld (in_d 1 (by decide) (by decide) hL hi) dL_law_452 ?_
  refine g_aload_n rfl dL_law_453 ?_
  refine g_iload_n rfl dL_law_454 ?_
  refine g_iconst dL_law_455 ?_
  refine g_iadd dL_law_456 ?_
  refine gl_sld (in_d 2 (by decide) (by decide) hL hi) dL_law_457 ?_
  refine gi_L_52 (by decide) rfl e1 rfl rfl ⟨Nat.le_of_ble_eq_true rfl, Nat.le_of_ble_eq_true rfl, Nat.le_of_ble_eq_true rfl, Nat.le_of_ble_eq_true rfl⟩ (Nat.le_of_ble_eq_true rfl) dL_law_458 (fun r M1 hq => ?_)
  obtain ⟨w, rfl, Q2, e2, k2⟩ := k1 r M1 hq
  refine g_aload_n rfl dL_law_461 ?_
  refine g_aload_n rfl dL_law_462 ?_
  refine g_iload_n rfl dL_law_463 ?_
  refine g_iconst dL_law_464 ?_
  refine g_iadd dL_law_465 ?_
  refine gl_sld (in_d 1 (by decide) (by decide) hL hi) dL_law_466 ?_
  refine g_aload_n rfl dL_law_467 ?_
  refine g_iload_n rfl dL_law_468 ?_
  refine g_iconst dL_law_469 ?_
  refine g_iadd dL_law_470 ?_
  refine gl_sld (in_d 2 (by decide) (by decide) hL hi) dL_law_471 ?_
  refine gi_L_55 (by decide) rfl e2 rfl rfl ⟨Nat.le_of_ble_eq_true rfl, Nat.le_of_ble_eq_true rfl, Nat.le_of_ble_eq_true rfl, Nat.le_of_ble_eq_true rfl⟩ (Nat.le_of_ble_eq_true rfl) dL_law_472 (fun r' M2 hq2 => ?_)
  obtain ⟨rfl, hI2⟩ := k2 r' M2 hq2
  exact g_icmp_eq (tgt := 850) dL_law_475 (by decide) (fun _ => kk M2 hI2) (fun c => absurd rfl c)
theorem law_c10 {bb L : Nat} {xs : Nat → Int32} {M : Mem} {i : Nat} (hL : L ≤ 2560) (hi : i + 5 ≤ L) (hI : Inv M) (kk : ∀ M2, Inv M2 → G RL code 4 ret (EL bb L xs) 850 [(0, .ref 43), (1, .ref 0), (2, .ref 31), (3, .int (zI i))] [] M2) : G RL code 4 ret (EL bb L xs) 480 [(0, .ref 43), (1, .ref 0), (2, .ref 31), (3, .int (zI i))] [] M := by
  obtain ⟨Q1, e1, k1⟩ := pr_answer hI (xs (zI i + zI 1).toNatClampNeg)
  refine g_aload_n rfl dL_law_480 ?_
  refine g_aload_n rfl dL_law_481 ?_
  refine g_iload_n rfl dL_law_482 ?_
  refine g_iconst dL_law_483 ?_
  refine g_iadd dL_law_484 ?_
  refine gl_sld (in_d 1 (by decide) (by decide) hL hi) dL_law_485 ?_
  refine gi_L_56 (by decide) rfl e1 rfl rfl ⟨Nat.le_of_ble_eq_true rfl, Nat.le_of_ble_eq_true rfl, Nat.le_of_ble_eq_true rfl, Nat.le_of_ble_eq_true rfl⟩ (Nat.le_of_ble_eq_true rfl) dL_law_486 (fun r M1 hq => ?_)
  obtain ⟨w, rfl, Q2, e2, k2⟩ := k1 r M1 hq
  refine g_aload_n rfl dL_law_489 ?_
  refine g_aload_n rfl dL_law_490 ?_
  refine g_iload_n rfl dL_law_491 ?_
  refine g_iconst dL_law_492 ?_
  refine g_iadd dL_law_493 ?_
  refine gl_sld (in_d 1 (by decide) (by decide) hL hi) dL_law_494 ?_
  refine gi_L_59 (by decide) rfl e2 rfl rfl ⟨Nat.le_of_ble_eq_true rfl, Nat.le_of_ble_eq_true rfl, Nat.le_of_ble_eq_true rfl, Nat.le_of_ble_eq_true rfl⟩ (Nat.le_of_ble_eq_true rfl) dL_law_495 (fun r' M2 hq2 => ?_)
  obtain ⟨rfl, hI2⟩ := k2 r' M2 hq2
  exact g_icmp_eq (tgt := 850) dL_law_498 (by decide) (fun _ => kk M2 hI2) (fun c => absurd rfl c)
theorem law_c11 {bb L : Nat} {xs : Nat → Int32} {M : Mem} {i : Nat} (hL : L ≤ 2560) (hi : i + 5 ≤ L) (hI : Inv M) (kk : ∀ M2, Inv M2 → G RL code 4 ret (EL bb L xs) 850 [(0, .ref 43), (1, .ref 0), (2, .ref 31), (3, .int (zI i))] [] M2) : G RL code 4 ret (EL bb L xs) 503 [(0, .ref 43), (1, .ref 0), (2, .ref 31), (3, .int (zI i))] [] M := by
  obtain ⟨Q1, e1, k1⟩ := pr_needed hI (xs (zI i + zI 1).toNatClampNeg) (xs (zI i + zI 2).toNatClampNeg) (xs (zI i + zI 3).toNatClampNeg)
  refine g_aload_n rfl dL_law_503 ?_
  refine g_aload_n rfl dL_law_504 ?_
  refine g_iload_n rfl dL_law_505 ?_
  refine g_iconst dL_law_506 ?_
  refine g_iadd dL_law_507 ?_
  refine gl_sld (in_d 1 (by decide) (by decide) hL hi) dL_law_508 ?_
  refine g_aload_n rfl dL_law_509 ?_
  refine g_iload_n rfl dL_law_510 ?_
  refine g_iconst dL_law_511 ?_
  refine g_iadd dL_law_512 ?_
  refine gl_sld (in_d 2 (by decide) (by decide) hL hi) dL_law_513 ?_
  refine g_aload_n rfl dL_law_514 ?_
  refine g_iload_n rfl dL_law_515 ?_
  refine g_iconst dL_law_516 ?_
  refine g_iadd dL_law_517 ?_
  refine gl_sld (in_d 3 (by decide) (by decide) hL hi) dL_law_518 ?_
  refine gi_L_60 (by decide) rfl e1 rfl rfl ⟨Nat.le_of_ble_eq_true rfl, Nat.le_of_ble_eq_true rfl, Nat.le_of_ble_eq_true rfl, Nat.le_of_ble_eq_true rfl⟩ (Nat.le_of_ble_eq_true rfl) dL_law_519 (fun r M1 hq => ?_)
  obtain ⟨w, rfl, Q2, e2, k2⟩ := k1 r M1 hq
  refine g_aload_n rfl dL_law_522 ?_
  refine g_aload_n rfl dL_law_523 ?_
  refine g_iload_n rfl dL_law_524 ?_
  refine g_iconst dL_law_525 ?_
  refine g_iadd dL_law_526 ?_
  refine gl_sld (in_d 1 (by decide) (by decide) hL hi) dL_law_527 ?_
  refine g_aload_n rfl dL_law_528 ?_
  refine g_iload_n rfl dL_law_529 ?_
  refine g_iconst dL_law_530 ?_
  refine g_iadd dL_law_531 ?_
  refine gl_sld (in_d 2 (by decide) (by decide) hL hi) dL_law_532 ?_
  refine g_aload_n rfl dL_law_533 ?_
  refine g_iload_n rfl dL_law_534 ?_
  refine g_iconst dL_law_535 ?_
  refine g_iadd dL_law_536 ?_
  refine gl_sld (in_d 3 (by decide) (by decide) hL hi) dL_law_537 ?_
  refine gi_L_63 (by decide) rfl e2 rfl rfl ⟨Nat.le_of_ble_eq_true rfl, Nat.le_of_ble_eq_true rfl, Nat.le_of_ble_eq_true rfl, Nat.le_of_ble_eq_true rfl⟩ (Nat.le_of_ble_eq_true rfl) dL_law_538 (fun r' M2 hq2 => ?_)
  obtain ⟨rfl, hI2⟩ := k2 r' M2 hq2
  exact g_icmp_eq (tgt := 850) dL_law_541 (by decide) (fun _ => kk M2 hI2) (fun c => absurd rfl c)
theorem law_c12 {bb L : Nat} {xs : Nat → Int32} {M : Mem} {i : Nat} (hL : L ≤ 2560) (hi : i + 5 ≤ L) (hI : Inv M) (kk : ∀ M2, Inv M2 → G RL code 4 ret (EL bb L xs) 850 [(0, .ref 43), (1, .ref 0), (2, .ref 31), (3, .int (zI i))] [] M2) : G RL code 4 ret (EL bb L xs) 546 [(0, .ref 43), (1, .ref 0), (2, .ref 31), (3, .int (zI i))] [] M := by
  obtain ⟨Q1, e1, k1⟩ := pr_fetch hI (xs (zI i + zI 1).toNatClampNeg)
  refine g_aload_n rfl dL_law_546 ?_
  refine g_aload_n rfl dL_law_547 ?_
  refine g_iload_n rfl dL_law_548 ?_
  refine g_iconst dL_law_549 ?_
  refine g_iadd dL_law_550 ?_
  refine gl_sld (in_d 1 (by decide) (by decide) hL hi) dL_law_551 ?_
  refine gi_L_64 (by decide) rfl e1 rfl rfl ⟨Nat.le_of_ble_eq_true rfl, Nat.le_of_ble_eq_true rfl, Nat.le_of_ble_eq_true rfl, Nat.le_of_ble_eq_true rfl⟩ (Nat.le_of_ble_eq_true rfl) dL_law_552 (fun r M1 hq => ?_)
  obtain ⟨w, rfl, Q2, e2, k2⟩ := k1 r M1 hq
  refine g_aload_n rfl dL_law_555 ?_
  refine g_aload_n rfl dL_law_556 ?_
  refine g_iload_n rfl dL_law_557 ?_
  refine g_iconst dL_law_558 ?_
  refine g_iadd dL_law_559 ?_
  refine gl_sld (in_d 1 (by decide) (by decide) hL hi) dL_law_560 ?_
  refine gi_L_67 (by decide) rfl e2 rfl rfl ⟨Nat.le_of_ble_eq_true rfl, Nat.le_of_ble_eq_true rfl, Nat.le_of_ble_eq_true rfl, Nat.le_of_ble_eq_true rfl⟩ (Nat.le_of_ble_eq_true rfl) dL_law_561 (fun r' M2 hq2 => ?_)
  obtain ⟨rfl, hI2⟩ := k2 r' M2 hq2
  exact g_icmp_eq (tgt := 850) dL_law_564 (by decide) (fun _ => kk M2 hI2) (fun c => absurd rfl c)
theorem law_c13 {bb L : Nat} {xs : Nat → Int32} {M : Mem} {i : Nat} (hL : L ≤ 2560) (hi : i + 5 ≤ L) (hI : Inv M) (kk : ∀ M2, Inv M2 → G RL code 4 ret (EL bb L xs) 850 [(0, .ref 43), (1, .ref 0), (2, .ref 31), (3, .int (zI i))] [] M2) : G RL code 4 ret (EL bb L xs) 569 [(0, .ref 43), (1, .ref 0), (2, .ref 31), (3, .int (zI i))] [] M := by
  obtain ⟨Q1, e1, k1⟩ := pr_caught hI (xs (zI i + zI 1).toNatClampNeg)
  refine g_aload_n rfl dL_law_569 ?_
  refine g_aload_n rfl dL_law_570 ?_
  refine g_iload_n rfl dL_law_571 ?_
  refine g_iconst dL_law_572 ?_
  refine g_iadd dL_law_573 ?_
  refine gl_sld (in_d 1 (by decide) (by decide) hL hi) dL_law_574 ?_
  refine gi_L_68 (by decide) rfl e1 rfl rfl ⟨Nat.le_of_ble_eq_true rfl, Nat.le_of_ble_eq_true rfl, Nat.le_of_ble_eq_true rfl, Nat.le_of_ble_eq_true rfl⟩ (Nat.le_of_ble_eq_true rfl) dL_law_575 (fun r M1 hq => ?_)
  obtain ⟨w, rfl, Q2, e2, k2⟩ := k1 r M1 hq
  refine g_aload_n rfl dL_law_578 ?_
  refine g_aload_n rfl dL_law_579 ?_
  refine g_iload_n rfl dL_law_580 ?_
  refine g_iconst dL_law_581 ?_
  refine g_iadd dL_law_582 ?_
  refine gl_sld (in_d 1 (by decide) (by decide) hL hi) dL_law_583 ?_
  refine gi_L_71 (by decide) rfl e2 rfl rfl ⟨Nat.le_of_ble_eq_true rfl, Nat.le_of_ble_eq_true rfl, Nat.le_of_ble_eq_true rfl, Nat.le_of_ble_eq_true rfl⟩ (Nat.le_of_ble_eq_true rfl) dL_law_584 (fun r' M2 hq2 => ?_)
  obtain ⟨rfl, hI2⟩ := k2 r' M2 hq2
  exact g_icmp_eq (tgt := 850) dL_law_587 (by decide) (fun _ => kk M2 hI2) (fun c => absurd rfl c)
theorem law_c14 {bb L : Nat} {xs : Nat → Int32} {M : Mem} {i : Nat} (hL : L ≤ 2560) (hi : i + 5 ≤ L) (hI : Inv M) (kk : ∀ M2, Inv M2 → G RL code 4 ret (EL bb L xs) 850 [(0, .ref 43), (1, .ref 0), (2, .ref 31), (3, .int (zI i))] [] M2) : G RL code 4 ret (EL bb L xs) 592 [(0, .ref 43), (1, .ref 0), (2, .ref 31), (3, .int (zI i))] [] M := by
  obtain ⟨Q1, e1, k1⟩ := pr_mends hI (xs (zI i + zI 1).toNatClampNeg)
  refine g_aload_n rfl dL_law_592 ?_
  refine g_aload_n rfl dL_law_593 ?_
  refine g_iload_n rfl dL_law_594 ?_
  refine g_iconst dL_law_595 ?_
  refine g_iadd dL_law_596 ?_
  refine gl_sld (in_d 1 (by decide) (by decide) hL hi) dL_law_597 ?_
  refine gi_L_72 (by decide) rfl e1 rfl rfl ⟨Nat.le_of_ble_eq_true rfl, Nat.le_of_ble_eq_true rfl, Nat.le_of_ble_eq_true rfl, Nat.le_of_ble_eq_true rfl⟩ (Nat.le_of_ble_eq_true rfl) dL_law_598 (fun r M1 hq => ?_)
  obtain ⟨w, rfl, Q2, e2, k2⟩ := k1 r M1 hq
  refine g_aload_n rfl dL_law_601 ?_
  refine g_aload_n rfl dL_law_602 ?_
  refine g_iload_n rfl dL_law_603 ?_
  refine g_iconst dL_law_604 ?_
  refine g_iadd dL_law_605 ?_
  refine gl_sld (in_d 1 (by decide) (by decide) hL hi) dL_law_606 ?_
  refine gi_L_75 (by decide) rfl e2 rfl rfl ⟨Nat.le_of_ble_eq_true rfl, Nat.le_of_ble_eq_true rfl, Nat.le_of_ble_eq_true rfl, Nat.le_of_ble_eq_true rfl⟩ (Nat.le_of_ble_eq_true rfl) dL_law_607 (fun r' M2 hq2 => ?_)
  obtain ⟨rfl, hI2⟩ := k2 r' M2 hq2
  exact g_icmp_eq (tgt := 850) dL_law_610 (by decide) (fun _ => kk M2 hI2) (fun c => absurd rfl c)
theorem law_c15 {bb L : Nat} {xs : Nat → Int32} {M : Mem} {i : Nat} (hL : L ≤ 2560) (hi : i + 5 ≤ L) (hI : Inv M) (kk : ∀ M2, Inv M2 → G RL code 4 ret (EL bb L xs) 850 [(0, .ref 43), (1, .ref 0), (2, .ref 31), (3, .int (zI i))] [] M2) : G RL code 4 ret (EL bb L xs) 615 [(0, .ref 43), (1, .ref 0), (2, .ref 31), (3, .int (zI i))] [] M := by
  obtain ⟨Q1, e1, k1⟩ := pr_ways hI (xs (zI i + zI 1).toNatClampNeg) (xs (zI i + zI 2).toNatClampNeg)
  refine g_aload_n rfl dL_law_615 ?_
  refine g_aload_n rfl dL_law_616 ?_
  refine g_iload_n rfl dL_law_617 ?_
  refine g_iconst dL_law_618 ?_
  refine g_iadd dL_law_619 ?_
  refine gl_sld (in_d 1 (by decide) (by decide) hL hi) dL_law_620 ?_
  refine g_aload_n rfl dL_law_621 ?_
  refine g_iload_n rfl dL_law_622 ?_
  refine g_iconst dL_law_623 ?_
  refine g_iadd dL_law_624 ?_
  refine gl_sld (in_d 2 (by decide) (by decide) hL hi) dL_law_625 ?_
  refine gi_L_76 (by decide) rfl e1 rfl rfl ⟨Nat.le_of_ble_eq_true rfl, Nat.le_of_ble_eq_true rfl, Nat.le_of_ble_eq_true rfl, Nat.le_of_ble_eq_true rfl⟩ (Nat.le_of_ble_eq_true rfl) dL_law_626 (fun r M1 hq => ?_)
  obtain ⟨w, rfl, Q2, e2, k2⟩ := k1 r M1 hq
  refine g_aload_n rfl dL_law_629 ?_
  refine g_aload_n rfl dL_law_630 ?_
  refine g_iload_n rfl dL_law_631 ?_
  refine g_iconst dL_law_632 ?_
  refine g_iadd dL_law_633 ?_
  refine gl_sld (in_d 1 (by decide) (by decide) hL hi) dL_law_634 ?_
  refine g_aload_n rfl dL_law_635 ?_
  refine g_iload_n rfl dL_law_636 ?_
  refine g_iconst dL_law_637 ?_
  refine g_iadd dL_law_638 ?_
  refine gl_sld (in_d 2 (by decide) (by decide) hL hi) dL_law_639 ?_
  refine gi_L_80 (by decide) rfl e2 rfl rfl ⟨Nat.le_of_ble_eq_true rfl, Nat.le_of_ble_eq_true rfl, Nat.le_of_ble_eq_true rfl, Nat.le_of_ble_eq_true rfl⟩ (Nat.le_of_ble_eq_true rfl) dL_law_640 (fun r' M2 hq2 => ?_)
  obtain ⟨rfl, hI2⟩ := k2 r' M2 hq2
  refine g_lcmp dL_law_643 ?_
  exact g_if_eq (tgt := 850) dL_law_644 (by decide) (fun _ => kk M2 hI2) (fun c => absurd (lg_cmp_self w) c)
theorem law_c16 {bb L : Nat} {xs : Nat → Int32} {M : Mem} {i : Nat} (hL : L ≤ 2560) (hi : i + 5 ≤ L) (hI : Inv M) (kk : ∀ M2, Inv M2 → G RL code 4 ret (EL bb L xs) 850 [(0, .ref 43), (1, .ref 0), (2, .ref 31), (3, .int (zI i))] [] M2) : G RL code 4 ret (EL bb L xs) 649 [(0, .ref 43), (1, .ref 0), (2, .ref 31), (3, .int (zI i))] [] M := by
  obtain ⟨Q1, e1, k1⟩ := pr_might hI (xs (zI i + zI 1).toNatClampNeg)
  refine g_aload_n rfl dL_law_649 ?_
  refine g_aload_n rfl dL_law_650 ?_
  refine g_iload_n rfl dL_law_651 ?_
  refine g_iconst dL_law_652 ?_
  refine g_iadd dL_law_653 ?_
  refine gl_sld (in_d 1 (by decide) (by decide) hL hi) dL_law_654 ?_
  refine gi_L_81 (by decide) rfl e1 rfl rfl ⟨Nat.le_of_ble_eq_true rfl, Nat.le_of_ble_eq_true rfl, Nat.le_of_ble_eq_true rfl, Nat.le_of_ble_eq_true rfl⟩ (Nat.le_of_ble_eq_true rfl) dL_law_655 (fun r M1 hq => ?_)
  obtain ⟨w, rfl, Q2, e2, k2⟩ := k1 r M1 hq
  refine g_aload_n rfl dL_law_658 ?_
  refine g_aload_n rfl dL_law_659 ?_
  refine g_iload_n rfl dL_law_660 ?_
  refine g_iconst dL_law_661 ?_
  refine g_iadd dL_law_662 ?_
  refine gl_sld (in_d 1 (by decide) (by decide) hL hi) dL_law_663 ?_
  refine gi_L_84 (by decide) rfl e2 rfl rfl ⟨Nat.le_of_ble_eq_true rfl, Nat.le_of_ble_eq_true rfl, Nat.le_of_ble_eq_true rfl, Nat.le_of_ble_eq_true rfl⟩ (Nat.le_of_ble_eq_true rfl) dL_law_664 (fun r' M2 hq2 => ?_)
  obtain ⟨rfl, hI2⟩ := k2 r' M2 hq2
  exact g_icmp_eq (tgt := 850) dL_law_667 (by decide) (fun _ => kk M2 hI2) (fun c => absurd rfl c)
theorem law_c17 {bb L : Nat} {xs : Nat → Int32} {M : Mem} {i : Nat} (hL : L ≤ 2560) (hi : i + 5 ≤ L) (hI : Inv M) (kk : ∀ M2, Inv M2 → G RL code 4 ret (EL bb L xs) 850 [(0, .ref 43), (1, .ref 0), (2, .ref 31), (3, .int (zI i))] [] M2) : G RL code 4 ret (EL bb L xs) 672 [(0, .ref 43), (1, .ref 0), (2, .ref 31), (3, .int (zI i))] [] M := by
  obtain ⟨Q1, e1, k1⟩ := pr_learns hI (xs (zI i + zI 1).toNatClampNeg)
  refine g_aload_n rfl dL_law_672 ?_
  refine g_aload_n rfl dL_law_673 ?_
  refine g_iload_n rfl dL_law_674 ?_
  refine g_iconst dL_law_675 ?_
  refine g_iadd dL_law_676 ?_
  refine gl_sld (in_d 1 (by decide) (by decide) hL hi) dL_law_677 ?_
  refine gi_L_85 (by decide) rfl e1 rfl rfl ⟨Nat.le_of_ble_eq_true rfl, Nat.le_of_ble_eq_true rfl, Nat.le_of_ble_eq_true rfl, Nat.le_of_ble_eq_true rfl⟩ (Nat.le_of_ble_eq_true rfl) dL_law_678 (fun r M1 hq => ?_)
  obtain ⟨w, rfl, Q2, e2, k2⟩ := k1 r M1 hq
  refine g_aload_n rfl dL_law_681 ?_
  refine g_aload_n rfl dL_law_682 ?_
  refine g_iload_n rfl dL_law_683 ?_
  refine g_iconst dL_law_684 ?_
  refine g_iadd dL_law_685 ?_
  refine gl_sld (in_d 1 (by decide) (by decide) hL hi) dL_law_686 ?_
  refine gi_L_88 (by decide) rfl e2 rfl rfl ⟨Nat.le_of_ble_eq_true rfl, Nat.le_of_ble_eq_true rfl, Nat.le_of_ble_eq_true rfl, Nat.le_of_ble_eq_true rfl⟩ (Nat.le_of_ble_eq_true rfl) dL_law_687 (fun r' M2 hq2 => ?_)
  obtain ⟨rfl, hI2⟩ := k2 r' M2 hq2
  exact g_icmp_eq (tgt := 850) dL_law_690 (by decide) (fun _ => kk M2 hI2) (fun c => absurd rfl c)
theorem law_c18 {bb L : Nat} {xs : Nat → Int32} {M : Mem} {i : Nat} (hL : L ≤ 2560) (hi : i + 5 ≤ L) (hI : Inv M) (kk : ∀ M2, Inv M2 → G RL code 4 ret (EL bb L xs) 850 [(0, .ref 43), (1, .ref 0), (2, .ref 31), (3, .int (zI i))] [] M2) : G RL code 4 ret (EL bb L xs) 695 [(0, .ref 43), (1, .ref 0), (2, .ref 31), (3, .int (zI i))] [] M := by
  obtain ⟨Q1, e1, k1⟩ := pr_least hI
  refine g_aload_n rfl dL_law_695 ?_
  refine gi_L_89 (by decide) rfl e1 rfl rfl ⟨Nat.le_of_ble_eq_true rfl, Nat.le_of_ble_eq_true rfl, Nat.le_of_ble_eq_true rfl, Nat.le_of_ble_eq_true rfl⟩ (Nat.le_of_ble_eq_true rfl) dL_law_696 (fun r M1 hq => ?_)
  obtain ⟨w, rfl, Q2, e2, k2⟩ := k1 r M1 hq
  refine g_aload_n rfl dL_law_699 ?_
  refine gi_L_93 (by decide) rfl e2 rfl rfl ⟨Nat.le_of_ble_eq_true rfl, Nat.le_of_ble_eq_true rfl, Nat.le_of_ble_eq_true rfl, Nat.le_of_ble_eq_true rfl⟩ (Nat.le_of_ble_eq_true rfl) dL_law_700 (fun r' M2 hq2 => ?_)
  obtain ⟨rfl, hI2⟩ := k2 r' M2 hq2
  exact g_icmp_eq (tgt := 850) dL_law_703 (by decide) (fun _ => kk M2 hI2) (fun c => absurd rfl c)
theorem law_c19 {bb L : Nat} {xs : Nat → Int32} {M : Mem} {i : Nat} (hL : L ≤ 2560) (hi : i + 5 ≤ L) (hI : Inv M) (kk : ∀ M2, Inv M2 → G RL code 4 ret (EL bb L xs) 850 [(0, .ref 43), (1, .ref 0), (2, .ref 31), (3, .int (zI i))] [] M2) : G RL code 4 ret (EL bb L xs) 708 [(0, .ref 43), (1, .ref 0), (2, .ref 31), (3, .int (zI i))] [] M := by
  obtain ⟨Q1, e1, k1⟩ := pr_fits hI (xs (zI i + zI 1).toNatClampNeg) (xs (zI i + zI 2).toNatClampNeg)
  refine g_aload_n rfl dL_law_708 ?_
  refine g_aload_n rfl dL_law_709 ?_
  refine g_iload_n rfl dL_law_710 ?_
  refine g_iconst dL_law_711 ?_
  refine g_iadd dL_law_712 ?_
  refine gl_sld (in_d 1 (by decide) (by decide) hL hi) dL_law_713 ?_
  refine g_aload_n rfl dL_law_714 ?_
  refine g_iload_n rfl dL_law_715 ?_
  refine g_iconst dL_law_716 ?_
  refine g_iadd dL_law_717 ?_
  refine gl_sld (in_d 2 (by decide) (by decide) hL hi) dL_law_718 ?_
  refine gi_L_94 (by decide) rfl e1 rfl rfl ⟨Nat.le_of_ble_eq_true rfl, Nat.le_of_ble_eq_true rfl, Nat.le_of_ble_eq_true rfl, Nat.le_of_ble_eq_true rfl⟩ (Nat.le_of_ble_eq_true rfl) dL_law_719 (fun r M1 hq => ?_)
  obtain ⟨w, rfl, Q2, e2, k2⟩ := k1 r M1 hq
  refine g_aload_n rfl dL_law_722 ?_
  refine g_aload_n rfl dL_law_723 ?_
  refine g_iload_n rfl dL_law_724 ?_
  refine g_iconst dL_law_725 ?_
  refine g_iadd dL_law_726 ?_
  refine gl_sld (in_d 1 (by decide) (by decide) hL hi) dL_law_727 ?_
  refine g_aload_n rfl dL_law_728 ?_
  refine g_iload_n rfl dL_law_729 ?_
  refine g_iconst dL_law_730 ?_
  refine g_iadd dL_law_731 ?_
  refine gl_sld (in_d 2 (by decide) (by decide) hL hi) dL_law_732 ?_
  refine gi_L_97 (by decide) rfl e2 rfl rfl ⟨Nat.le_of_ble_eq_true rfl, Nat.le_of_ble_eq_true rfl, Nat.le_of_ble_eq_true rfl, Nat.le_of_ble_eq_true rfl⟩ (Nat.le_of_ble_eq_true rfl) dL_law_733 (fun r' M2 hq2 => ?_)
  obtain ⟨rfl, hI2⟩ := k2 r' M2 hq2
  exact g_icmp_eq (tgt := 850) dL_law_736 (by decide) (fun _ => kk M2 hI2) (fun c => absurd rfl c)
theorem law_c20 {bb L : Nat} {xs : Nat → Int32} {M : Mem} {i : Nat} (hL : L ≤ 2560) (hi : i + 5 ≤ L) (hI : Inv M) (kk : ∀ M2, Inv M2 → G RL code 4 ret (EL bb L xs) 850 [(0, .ref 43), (1, .ref 0), (2, .ref 31), (3, .int (zI i))] [] M2) : G RL code 4 ret (EL bb L xs) 741 [(0, .ref 43), (1, .ref 0), (2, .ref 31), (3, .int (zI i))] [] M := by
  obtain ⟨Q1, e1, k1⟩ := pr_both hI (xs (zI i + zI 1).toNatClampNeg) (xs (zI i + zI 2).toNatClampNeg)
  refine g_aload_n rfl dL_law_741 ?_
  refine g_aload_n rfl dL_law_742 ?_
  refine g_iload_n rfl dL_law_743 ?_
  refine g_iconst dL_law_744 ?_
  refine g_iadd dL_law_745 ?_
  refine gl_sld (in_d 1 (by decide) (by decide) hL hi) dL_law_746 ?_
  refine g_aload_n rfl dL_law_747 ?_
  refine g_iload_n rfl dL_law_748 ?_
  refine g_iconst dL_law_749 ?_
  refine g_iadd dL_law_750 ?_
  refine gl_sld (in_d 2 (by decide) (by decide) hL hi) dL_law_751 ?_
  refine gi_L_98 (by decide) rfl e1 rfl rfl ⟨Nat.le_of_ble_eq_true rfl, Nat.le_of_ble_eq_true rfl, Nat.le_of_ble_eq_true rfl, Nat.le_of_ble_eq_true rfl⟩ (Nat.le_of_ble_eq_true rfl) dL_law_752 (fun r M1 hq => ?_)
  obtain ⟨w, rfl, Q2, e2, k2⟩ := k1 r M1 hq
  refine g_aload_n rfl dL_law_755 ?_
  refine g_aload_n rfl dL_law_756 ?_
  refine g_iload_n rfl dL_law_757 ?_
  refine g_iconst dL_law_758 ?_
  refine g_iadd dL_law_759 ?_
  refine gl_sld (in_d 1 (by decide) (by decide) hL hi) dL_law_760 ?_
  refine g_aload_n rfl dL_law_761 ?_
  refine g_iload_n rfl dL_law_762 ?_
  refine g_iconst dL_law_763 ?_
  refine g_iadd dL_law_764 ?_
  refine gl_sld (in_d 2 (by decide) (by decide) hL hi) dL_law_765 ?_
  refine gi_L_101 (by decide) rfl e2 rfl rfl ⟨Nat.le_of_ble_eq_true rfl, Nat.le_of_ble_eq_true rfl, Nat.le_of_ble_eq_true rfl, Nat.le_of_ble_eq_true rfl⟩ (Nat.le_of_ble_eq_true rfl) dL_law_766 (fun r' M2 hq2 => ?_)
  obtain ⟨rfl, hI2⟩ := k2 r' M2 hq2
  exact g_icmp_eq (tgt := 850) dL_law_769 (by decide) (fun _ => kk M2 hI2) (fun c => absurd rfl c)
theorem law_c21 {bb L : Nat} {xs : Nat → Int32} {M : Mem} {i : Nat} (hL : L ≤ 2560) (hi : i + 5 ≤ L) (hI : Inv M) (kk : ∀ M2, Inv M2 → G RL code 4 ret (EL bb L xs) 850 [(0, .ref 43), (1, .ref 0), (2, .ref 31), (3, .int (zI i))] [] M2) : G RL code 4 ret (EL bb L xs) 774 [(0, .ref 43), (1, .ref 0), (2, .ref 31), (3, .int (zI i))] [] M := by
  obtain ⟨Q1, e1, k1⟩ := pr_pair hI (xs (zI i + zI 1).toNatClampNeg) (xs (zI i + zI 2).toNatClampNeg) (xs (zI i + zI 3).toNatClampNeg) (xs (zI i + zI 4).toNatClampNeg)
  refine g_aload_n rfl dL_law_774 ?_
  refine g_aload_n rfl dL_law_775 ?_
  refine g_iload_n rfl dL_law_776 ?_
  refine g_iconst dL_law_777 ?_
  refine g_iadd dL_law_778 ?_
  refine gl_sld (in_d 1 (by decide) (by decide) hL hi) dL_law_779 ?_
  refine g_aload_n rfl dL_law_780 ?_
  refine g_iload_n rfl dL_law_781 ?_
  refine g_iconst dL_law_782 ?_
  refine g_iadd dL_law_783 ?_
  refine gl_sld (in_d 2 (by decide) (by decide) hL hi) dL_law_784 ?_
  refine g_aload_n rfl dL_law_785 ?_
  refine g_iload_n rfl dL_law_786 ?_
  refine g_iconst dL_law_787 ?_
  refine g_iadd dL_law_788 ?_
  refine gl_sld (in_d 3 (by decide) (by decide) hL hi) dL_law_789 ?_
  refine g_aload_n rfl dL_law_790 ?_
  refine g_iload_n rfl dL_law_791 ?_
  refine g_iconst dL_law_792 ?_
  refine g_iadd dL_law_793 ?_
  refine gl_sld (in_d 4 (by decide) (by decide) hL hi) dL_law_794 ?_
  refine gi_L_102 (by decide) rfl e1 rfl rfl ⟨Nat.le_of_ble_eq_true rfl, Nat.le_of_ble_eq_true rfl, Nat.le_of_ble_eq_true rfl, Nat.le_of_ble_eq_true rfl⟩ (Nat.le_of_ble_eq_true rfl) dL_law_795 (fun r M1 hq => ?_)
  obtain ⟨w, rfl, Q2, e2, k2⟩ := k1 r M1 hq
  refine g_aload_n rfl dL_law_798 ?_
  refine g_aload_n rfl dL_law_799 ?_
  refine g_iload_n rfl dL_law_800 ?_
  refine g_iconst dL_law_801 ?_
  refine g_iadd dL_law_802 ?_
  refine gl_sld (in_d 1 (by decide) (by decide) hL hi) dL_law_803 ?_
  refine g_aload_n rfl dL_law_804 ?_
  refine g_iload_n rfl dL_law_805 ?_
  refine g_iconst dL_law_806 ?_
  refine g_iadd dL_law_807 ?_
  refine gl_sld (in_d 2 (by decide) (by decide) hL hi) dL_law_808 ?_
  refine g_aload_n rfl dL_law_809 ?_
  refine g_iload_n rfl dL_law_810 ?_
  refine g_iconst dL_law_811 ?_
  refine g_iadd dL_law_812 ?_
  refine gl_sld (in_d 3 (by decide) (by decide) hL hi) dL_law_813 ?_
  refine g_aload_n rfl dL_law_814 ?_
  refine g_iload_n rfl dL_law_815 ?_
  refine g_iconst dL_law_816 ?_
  refine g_iadd dL_law_817 ?_
  refine gl_sld (in_d 4 (by decide) (by decide) hL hi) dL_law_818 ?_
  refine gi_L_106 (by decide) rfl e2 rfl rfl ⟨Nat.le_of_ble_eq_true rfl, Nat.le_of_ble_eq_true rfl, Nat.le_of_ble_eq_true rfl, Nat.le_of_ble_eq_true rfl⟩ (Nat.le_of_ble_eq_true rfl) dL_law_819 (fun r' M2 hq2 => ?_)
  obtain ⟨rfl, hI2⟩ := k2 r' M2 hq2
  exact g_icmp_eq (tgt := 850) dL_law_822 (by decide) (fun _ => kk M2 hI2) (fun c => absurd rfl c)
theorem law_c22 {bb L : Nat} {xs : Nat → Int32} {M : Mem} {i : Nat} (hL : L ≤ 2560) (hi : i + 5 ≤ L) (hI : Inv M) (kk : ∀ M2, Inv M2 → G RL code 4 ret (EL bb L xs) 850 [(0, .ref 43), (1, .ref 0), (2, .ref 31), (3, .int (zI i))] [] M2) : G RL code 4 ret (EL bb L xs) 827 [(0, .ref 43), (1, .ref 0), (2, .ref 31), (3, .int (zI i))] [] M := by
  obtain ⟨Q1, e1, k1⟩ := pr_total hI (xs (zI i + zI 1).toNatClampNeg)
  refine g_aload_n rfl dL_law_827 ?_
  refine g_aload_n rfl dL_law_828 ?_
  refine g_iload_n rfl dL_law_829 ?_
  refine g_iconst dL_law_830 ?_
  refine g_iadd dL_law_831 ?_
  refine gl_sld (in_d 1 (by decide) (by decide) hL hi) dL_law_832 ?_
  refine gi_L_107 (by decide) rfl e1 rfl rfl ⟨Nat.le_of_ble_eq_true rfl, Nat.le_of_ble_eq_true rfl, Nat.le_of_ble_eq_true rfl, Nat.le_of_ble_eq_true rfl⟩ (Nat.le_of_ble_eq_true rfl) dL_law_833 (fun r M1 hq => ?_)
  obtain ⟨w, rfl, Q2, e2, k2⟩ := k1 r M1 hq
  refine g_aload_n rfl dL_law_836 ?_
  refine g_aload_n rfl dL_law_837 ?_
  refine g_iload_n rfl dL_law_838 ?_
  refine g_iconst dL_law_839 ?_
  refine g_iadd dL_law_840 ?_
  refine gl_sld (in_d 1 (by decide) (by decide) hL hi) dL_law_841 ?_
  refine gi_L_110 (by decide) rfl e2 rfl rfl ⟨Nat.le_of_ble_eq_true rfl, Nat.le_of_ble_eq_true rfl, Nat.le_of_ble_eq_true rfl, Nat.le_of_ble_eq_true rfl⟩ (Nat.le_of_ble_eq_true rfl) dL_law_842 (fun r' M2 hq2 => ?_)
  obtain ⟨rfl, hI2⟩ := k2 r' M2 hq2
  exact g_icmp_eq (tgt := 850) dL_law_845 (by decide) (fun _ => kk M2 hI2) (fun c => absurd rfl c)
