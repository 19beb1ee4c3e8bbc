/-- how the law goes on behind a call -/
def lawK (nm : String) (b L : Nat) (xs : Nat → Int32) (ex : List dt_Shp) (i : Nat) : Prop := ∀ (ex' : List dt_Shp) (σ' : dt_Mem) (A' : dS), ex'.length ≤ ex.length + 2 → cInv ex' σ' A' → rInv σ' A' → pB A' (17 * i + 100) → dt_V (mLaw nm) room_1 (dt_LC b L xs) (100 + 2 * i + 2) (20000 + 21 * i + 21) 1097 [some (dt_S 200), some (dt_R 0), some (dt_R 40), some (dt_I (i : Int))] [] (dt_SH ++ ex') σ'
theorem law_c0 {nm : String} {b L : Nat} {xs : Nat → Int32} {ex : List dt_Shp} {σ : dt_Mem} {A : dS} {i : Nat} (hL : L ≤ 384) (hi : i + 6 ≤ L) (hC : cInv ex σ A) (hR : rInv σ A) (hB : pB A (17 * i)) (hx : ex.length ≤ 2 * i) (hk : lawK nm b L xs ex i) : dt_V (mLaw nm) room_1 (dt_LC b L xs) (100 + 2 * i) (20000 + 21 * i) 156 [some (dt_S 200), some (dt_R 0), some (dt_R 40), some (dt_I (i : Int))] [] (dt_SH ++ ex) σ := by
  have hO : aOk A 10000 := ⟨⟨(hC.ok hB).1.1, (hC.ok hB).1.2.1, Nat.le_trans hB.1 (by omega)⟩, ⟨(hC.ok hB).2.1.1, (hC.ok hB).2.1.2.1, Nat.le_trans hB.2.1 (by omega)⟩, ⟨(hC.ok hB).2.2.1.1, (hC.ok hB).2.2.1.2.1, Nat.le_trans hB.2.2.1 (by omega)⟩, hB.2.2.2⟩
  refine dt_aloadn dL_law_156 rfl rfl ?_
  refine dt_aloadSn dL_law_157 rfl rfl ?_
  refine dt_iloadn dL_law_158 rfl rfl ?_
  refine dt_iconst dL_law_159 ?_
  refine dt_iadd dL_law_160 ?_
  refine dt_lsld dL_law_161 (by omega) (by omega) hL ?_
  refine dt_aloadSn dL_law_162 rfl rfl ?_
  refine dt_iloadn dL_law_163 rfl rfl ?_
  refine dt_iconst dL_law_164 ?_
  refine dt_iadd dL_law_165 ?_
  refine dt_lsld dL_law_166 (by omega) (by omega) hL ?_
  refine dt_aloadSn dL_law_167 rfl rfl ?_
  refine dt_iloadn dL_law_168 rfl rfl ?_
  refine dt_iconst dL_law_169 ?_
  refine dt_iadd dL_law_170 ?_
  refine dt_lsld dL_law_171 (by omega) (by omega) hL ?_
  refine dt_xV dL_law_172 pc_L_13 rfl (s_X11_row hC (dt_t32 _) (dt_t32 _) (dt_t32 _)) rfl rfl ⟨by decide, by decide⟩ rfl rfl (Nat.le_of_ble_eq_true rfl) ⟨by show _ ≤ 600000; omega, by show _ ≤ 7302250; omega⟩ ?_
  intro v1 sh1 σ1 hq1
  obtain ⟨rfl, hs1, hC1, hf1⟩ := hq1
  obtain rfl := hs1.symm
  have hR1 := hR.kept hf1
  refine dt_aloadn dL_law_175 rfl rfl ?_
  refine dt_aloadSn dL_law_176 rfl rfl ?_
  refine dt_iloadn dL_law_177 rfl rfl ?_
  refine dt_iconst dL_law_178 ?_
  refine dt_iadd dL_law_179 ?_
  refine dt_lsld dL_law_180 (by omega) (by omega) hL ?_
  refine dt_aloadSn dL_law_181 rfl rfl ?_
  refine dt_iloadn dL_law_182 rfl rfl ?_
  refine dt_iconst dL_law_183 ?_
  refine dt_iadd dL_law_184 ?_
  refine dt_lsld dL_law_185 (by omega) (by omega) hL ?_
  refine dt_aloadSn dL_law_186 rfl rfl ?_
  refine dt_iloadn dL_law_187 rfl rfl ?_
  refine dt_iconst dL_law_188 ?_
  refine dt_iadd dL_law_189 ?_
  refine dt_lsld dL_law_190 (by omega) (by omega) hL ?_
  refine dt_xV dL_law_191 pc_L_17 rfl (s_X12_row hR1 (dt_t32 _) (dt_t32 _) (dt_t32 _)) rfl rfl ⟨by decide, by decide⟩ rfl rfl (Nat.le_of_ble_eq_true rfl) ⟨by show _ ≤ 600000; omega, by show _ ≤ 7302250; omega⟩ ?_
  intro v2 sh2 σ2 hq2
  obtain ⟨rfl, hs2, hR2, hf2⟩ := hq2
  obtain rfl := hs2.symm
  have hC2 := hC1.kept hf2
  refine dt_lsame (tgt := 1097) dL_law_194 (by decide) ?_
  refine dt_wk (by omega) (by omega) (hk ex _ _ (by omega) hC2 hR2 (hB.same (pBs_oRow A _ _ _)))
theorem law_c1 {nm : String} {b L : Nat} {xs : Nat → Int32} {ex : List dt_Shp} {σ : dt_Mem} {A : dS} {i : Nat} (hL : L ≤ 384) (hi : i + 6 ≤ L) (hC : cInv ex σ A) (hR : rInv σ A) (hB : pB A (17 * i)) (hx : ex.length ≤ 2 * i) (hk : lawK nm b L xs ex i) : dt_V (mLaw nm) room_1 (dt_LC b L xs) (100 + 2 * i) (20000 + 21 * i) 199 [some (dt_S 200), some (dt_R 0), some (dt_R 40), some (dt_I (i : Int))] [] (dt_SH ++ ex) σ := by
  have hO : aOk A 10000 := ⟨⟨(hC.ok hB).1.1, (hC.ok hB).1.2.1, Nat.le_trans hB.1 (by omega)⟩, ⟨(hC.ok hB).2.1.1, (hC.ok hB).2.1.2.1, Nat.le_trans hB.2.1 (by omega)⟩, ⟨(hC.ok hB).2.2.1.1, (hC.ok hB).2.2.1.2.1, Nat.le_trans hB.2.2.1 (by omega)⟩, hB.2.2.2⟩
  refine dt_aloadn dL_law_199 rfl rfl ?_
  refine dt_aloadSn dL_law_200 rfl rfl ?_
  refine dt_iloadn dL_law_201 rfl rfl ?_
  refine dt_iconst dL_law_202 ?_
  refine dt_iadd dL_law_203 ?_
  refine dt_lsld dL_law_204 (by omega) (by omega) hL ?_
  refine dt_aloadSn dL_law_205 rfl rfl ?_
  refine dt_iloadn dL_law_206 rfl rfl ?_
  refine dt_iconst dL_law_207 ?_
  refine dt_iadd dL_law_208 ?_
  refine dt_lsld dL_law_209 (by omega) (by omega) hL ?_
  refine dt_aloadSn dL_law_210 rfl rfl ?_
  refine dt_iloadn dL_law_211 rfl rfl ?_
  refine dt_iconst dL_law_212 ?_
  refine dt_iadd dL_law_213 ?_
  refine dt_lsld dL_law_214 (by omega) (by omega) hL ?_
  refine dt_xV dL_law_215 pc_L_18 rfl (s_X11_set hC (dt_t32 _) (dt_t32 _) (dt_t32 _)) rfl rfl ⟨by decide, by decide⟩ rfl rfl (Nat.le_of_ble_eq_true rfl) ⟨by show _ ≤ 600000; omega, by show _ ≤ 7302250; omega⟩ ?_
  intro v1 sh1 σ1 hq1
  obtain ⟨rfl, hs1, hC1, hf1⟩ := hq1
  obtain rfl := hs1.symm
  have hR1 := hR.kept hf1
  refine dt_aloadn dL_law_218 rfl rfl ?_
  refine dt_aloadSn dL_law_219 rfl rfl ?_
  refine dt_iloadn dL_law_220 rfl rfl ?_
  refine dt_iconst dL_law_221 ?_
  refine dt_iadd dL_law_222 ?_
  refine dt_lsld dL_law_223 (by omega) (by omega) hL ?_
  refine dt_aloadSn dL_law_224 rfl rfl ?_
  refine dt_iloadn dL_law_225 rfl rfl ?_
  refine dt_iconst dL_law_226 ?_
  refine dt_iadd dL_law_227 ?_
  refine dt_lsld dL_law_228 (by omega) (by omega) hL ?_
  refine dt_aloadSn dL_law_229 rfl rfl ?_
  refine dt_iloadn dL_law_230 rfl rfl ?_
  refine dt_iconst dL_law_231 ?_
  refine dt_iadd dL_law_232 ?_
  refine dt_lsld dL_law_233 (by omega) (by omega) hL ?_
  refine dt_xV dL_law_234 pc_L_21 rfl (s_X12_set hR1 (dt_t32 _) (dt_t32 _) (dt_t32 _)) rfl rfl ⟨by decide, by decide⟩ rfl rfl (Nat.le_of_ble_eq_true rfl) ⟨by show _ ≤ 600000; omega, by show _ ≤ 7302250; omega⟩ ?_
  intro v2 sh2 σ2 hq2
  obtain ⟨rfl, hs2, hR2, hf2⟩ := hq2
  obtain rfl := hs2.symm
  have hC2 := hC1.kept hf2
  refine dt_lsame (tgt := 1097) dL_law_237 (by decide) ?_
  refine dt_wk (by omega) (by omega) (hk ex _ _ (by omega) hC2 hR2 (hB.same (pBs_oSet A _ _ _)))
theorem law_c2 {nm : String} {b L : Nat} {xs : Nat → Int32} {ex : List dt_Shp} {σ : dt_Mem} {A : dS} {i : Nat} (hL : L ≤ 384) (hi : i + 6 ≤ L) (hC : cInv ex σ A) (hR : rInv σ A) (hB : pB A (17 * i)) (hx : ex.length ≤ 2 * i) (hk : lawK nm b L xs ex i) : dt_V (mLaw nm) room_1 (dt_LC b L xs) (100 + 2 * i) (20000 + 21 * i) 242 [some (dt_S 200), some (dt_R 0), some (dt_R 40), some (dt_I (i : Int))] [] (dt_SH ++ ex) σ := by
  have hO : aOk A 10000 := ⟨⟨(hC.ok hB).1.1, (hC.ok hB).1.2.1, Nat.le_trans hB.1 (by omega)⟩, ⟨(hC.ok hB).2.1.1, (hC.ok hB).2.1.2.1, Nat.le_trans hB.2.1 (by omega)⟩, ⟨(hC.ok hB).2.2.1.1, (hC.ok hB).2.2.1.2.1, Nat.le_trans hB.2.2.1 (by omega)⟩, hB.2.2.2⟩
  refine dt_aloadn dL_law_242 rfl rfl ?_
  refine dt_aloadSn dL_law_243 rfl rfl ?_
  refine dt_iloadn dL_law_244 rfl rfl ?_
  refine dt_iconst dL_law_245 ?_
  refine dt_iadd dL_law_246 ?_
  refine dt_lsld dL_law_247 (by omega) (by omega) hL ?_
  refine dt_aloadSn dL_law_248 rfl rfl ?_
  refine dt_iloadn dL_law_249 rfl rfl ?_
  refine dt_iconst dL_law_250 ?_
  refine dt_iadd dL_law_251 ?_
  refine dt_lsld dL_law_252 (by omega) (by omega) hL ?_
  refine dt_aloadSn dL_law_253 rfl rfl ?_
  refine dt_iloadn dL_law_254 rfl rfl ?_
  refine dt_iconst dL_law_255 ?_
  refine dt_iadd dL_law_256 ?_
  refine dt_lsld dL_law_257 (by omega) (by omega) hL ?_
  refine dt_aloadSn dL_law_258 rfl rfl ?_
  refine dt_iloadn dL_law_259 rfl rfl ?_
  refine dt_iconst dL_law_260 ?_
  refine dt_iadd dL_law_261 ?_
  refine dt_lsld dL_law_262 (by omega) (by omega) hL ?_
  refine dt_aloadSn dL_law_263 rfl rfl ?_
  refine dt_iloadn dL_law_264 rfl rfl ?_
  refine dt_iconst dL_law_265 ?_
  refine dt_iadd dL_law_266 ?_
  refine dt_lsld dL_law_267 (by omega) (by omega) hL ?_
  refine dt_xV dL_law_268 pc_L_22 rfl (s_X11_copy hC (dt_t32 _) (dt_t32 _) (dt_t32 _) (dt_t32 _) (dt_t32 _)) rfl rfl ⟨by decide, by decide⟩ rfl rfl (Nat.le_of_ble_eq_true rfl) ⟨by show _ ≤ 600000; omega, by show _ ≤ 7302250; omega⟩ ?_
  intro v1 sh1 σ1 hq1
  obtain ⟨rfl, hs1, hC1, hf1⟩ := hq1
  obtain rfl := hs1.symm
  have hR1 := hR.kept hf1
  refine dt_aloadn dL_law_271 rfl rfl ?_
  refine dt_aloadSn dL_law_272 rfl rfl ?_
  refine dt_iloadn dL_law_273 rfl rfl ?_
  refine dt_iconst dL_law_274 ?_
  refine dt_iadd dL_law_275 ?_
  refine dt_lsld dL_law_276 (by omega) (by omega) hL ?_
  refine dt_aloadSn dL_law_277 rfl rfl ?_
  refine dt_iloadn dL_law_278 rfl rfl ?_
  refine dt_iconst dL_law_279 ?_
  refine dt_iadd dL_law_280 ?_
  refine dt_lsld dL_law_281 (by omega) (by omega) hL ?_
  refine dt_aloadSn dL_law_282 rfl rfl ?_
  refine dt_iloadn dL_law_283 rfl rfl ?_
  refine dt_iconst dL_law_284 ?_
  refine dt_iadd dL_law_285 ?_
  refine dt_lsld dL_law_286 (by omega) (by omega) hL ?_
  refine dt_aloadSn dL_law_287 rfl rfl ?_
  refine dt_iloadn dL_law_288 rfl rfl ?_
  refine dt_iconst dL_law_289 ?_
  refine dt_iadd dL_law_290 ?_
  refine dt_lsld dL_law_291 (by omega) (by omega) hL ?_
  refine dt_aloadSn dL_law_292 rfl rfl ?_
  refine dt_iloadn dL_law_293 rfl rfl ?_
  refine dt_iconst dL_law_294 ?_
  refine dt_iadd dL_law_295 ?_
  refine dt_lsld dL_law_296 (by omega) (by omega) hL ?_
  refine dt_xV dL_law_297 pc_L_26 rfl (s_X12_copy hR1 (dt_t32 _) (dt_t32 _) (dt_t32 _) (dt_t32 _) (dt_t32 _)) rfl rfl ⟨by decide, by decide⟩ rfl rfl (Nat.le_of_ble_eq_true rfl) ⟨by show _ ≤ 600000; omega, by show _ ≤ 7302250; omega⟩ ?_
  intro v2 sh2 σ2 hq2
  obtain ⟨rfl, hs2, hR2, hf2⟩ := hq2
  obtain rfl := hs2.symm
  have hC2 := hC1.kept hf2
  refine dt_lsame (tgt := 1097) dL_law_300 (by decide) ?_
  refine dt_wk (by omega) (by omega) (hk ex _ _ (by omega) hC2 hR2 (hB.same (pBs_oCopy A _ _ _ _ _)))
theorem law_c3 {nm : String} {b L : Nat} {xs : Nat → Int32} {ex : List dt_Shp} {σ : dt_Mem} {A : dS} {i : Nat} (hL : L ≤ 384) (hi : i + 6 ≤ L) (hC : cInv ex σ A) (hR : rInv σ A) (hB : pB A (17 * i)) (hx : ex.length ≤ 2 * i) (hk : lawK nm b L xs ex i) : dt_V (mLaw nm) room_1 (dt_LC b L xs) (100 + 2 * i) (20000 + 21 * i) 305 [some (dt_S 200), some (dt_R 0), some (dt_R 40), some (dt_I (i : Int))] [] (dt_SH ++ ex) σ := by
  have hO : aOk A 10000 := ⟨⟨(hC.ok hB).1.1, (hC.ok hB).1.2.1, Nat.le_trans hB.1 (by omega)⟩, ⟨(hC.ok hB).2.1.1, (hC.ok hB).2.1.2.1, Nat.le_trans hB.2.1 (by omega)⟩, ⟨(hC.ok hB).2.2.1.1, (hC.ok hB).2.2.1.2.1, Nat.le_trans hB.2.2.1 (by omega)⟩, hB.2.2.2⟩
  refine dt_aloadn dL_law_305 rfl rfl ?_
  refine dt_aloadSn dL_law_306 rfl rfl ?_
  refine dt_iloadn dL_law_307 rfl rfl ?_
  refine dt_iconst dL_law_308 ?_
  refine dt_iadd dL_law_309 ?_
  refine dt_lsld dL_law_310 (by omega) (by omega) hL ?_
  refine dt_xV dL_law_311 pc_L_27 rfl (s_X11_drop hC (dt_t32 _)) rfl rfl ⟨by decide, by decide⟩ rfl rfl (Nat.le_of_ble_eq_true rfl) ⟨by show _ ≤ 600000; omega, by show _ ≤ 7302250; omega⟩ ?_
  intro v1 sh1 σ1 hq1
  obtain ⟨rfl, hs1, hC1, hf1⟩ := hq1
  obtain rfl := hs1.symm
  have hR1 := hR.kept hf1
  refine dt_aloadn dL_law_314 rfl rfl ?_
  refine dt_aloadSn dL_law_315 rfl rfl ?_
  refine dt_iloadn dL_law_316 rfl rfl ?_
  refine dt_iconst dL_law_317 ?_
  refine dt_iadd dL_law_318 ?_
  refine dt_lsld dL_law_319 (by omega) (by omega) hL ?_
  refine dt_xV dL_law_320 pc_L_31 rfl (s_X12_drop hR1 (dt_t32 _)) rfl rfl ⟨by decide, by decide⟩ rfl rfl (Nat.le_of_ble_eq_true rfl) ⟨by show _ ≤ 600000; omega, by show _ ≤ 7302250; omega⟩ ?_
  intro v2 sh2 σ2 hq2
  obtain ⟨rfl, hs2, hR2, hf2⟩ := hq2
  obtain rfl := hs2.symm
  have hC2 := hC1.kept hf2
  refine dt_lsame (tgt := 1097) dL_law_323 (by decide) ?_
  refine dt_wk (by omega) (by omega) (hk ex _ _ (by omega) hC2 hR2 (hB.same (pBs_oDrop A _)))
theorem law_c4 {nm : String} {b L : Nat} {xs : Nat → Int32} {ex : List dt_Shp} {σ : dt_Mem} {A : dS} {i : Nat} (hL : L ≤ 384) (hi : i + 6 ≤ L) (hC : cInv ex σ A) (hR : rInv σ A) (hB : pB A (17 * i)) (hx : ex.length ≤ 2 * i) (hk : lawK nm b L xs ex i) : dt_V (mLaw nm) room_1 (dt_LC b L xs) (100 + 2 * i) (20000 + 21 * i) 328 [some (dt_S 200), some (dt_R 0), some (dt_R 40), some (dt_I (i : Int))] [] (dt_SH ++ ex) σ := by
  have hO : aOk A 10000 := ⟨⟨(hC.ok hB).1.1, (hC.ok hB).1.2.1, Nat.le_trans hB.1 (by omega)⟩, ⟨(hC.ok hB).2.1.1, (hC.ok hB).2.1.2.1, Nat.le_trans hB.2.1 (by omega)⟩, ⟨(hC.ok hB).2.2.1.1, (hC.ok hB).2.2.1.2.1, Nat.le_trans hB.2.2.1 (by omega)⟩, hB.2.2.2⟩
  refine dt_aloadn dL_law_328 rfl rfl ?_
  refine dt_aloadSn dL_law_329 rfl rfl ?_
  refine dt_iloadn dL_law_330 rfl rfl ?_
  refine dt_iconst dL_law_331 ?_
  refine dt_iadd dL_law_332 ?_
  refine dt_lsld dL_law_333 (by omega) (by omega) hL ?_
  refine dt_ui2l dL_law_334 (dt_t32 _) ?_
  refine dt_bipush dL_law_335 (by decide) ?_
  refine dt_lshl dL_law_337 ?_
  refine dt_aloadSn dL_law_338 rfl rfl ?_
  refine dt_iloadn dL_law_339 rfl rfl ?_
  refine dt_iconst dL_law_340 ?_
  refine dt_iadd dL_law_341 ?_
  refine dt_lsld dL_law_342 (by omega) (by omega) hL ?_
  refine dt_ui2l dL_law_343 (dt_t32 _) ?_
  refine dt_ldc2 dL_law_344 pk_L_32 ?_
  refine dt_land dL_law_347 ?_
  refine dt_lor dL_law_348 ?_
  refine dt_aloadSn dL_law_349 rfl rfl ?_
  refine dt_iloadn dL_law_350 rfl rfl ?_
  refine dt_iconst dL_law_351 ?_
  refine dt_iadd dL_law_352 ?_
  refine dt_lsld dL_law_353 (by omega) (by omega) hL ?_
  refine dt_xV dL_law_354 pc_L_34 rfl (s_X11_feed hC (dt_t32 _)) rfl rfl ⟨by decide, by decide⟩ rfl rfl (Nat.le_of_ble_eq_true rfl) ⟨by show _ ≤ 600000; omega, by show _ ≤ 7302250; omega⟩ ?_
  intro v1 sh1 σ1 hq1
  obtain ⟨rfl, hs1, hC1, hf1⟩ := hq1
  obtain rfl := hs1.symm
  have hR1 := hR.kept hf1
  refine dt_aloadn dL_law_357 rfl rfl ?_
  refine dt_aloadSn dL_law_358 rfl rfl ?_
  refine dt_iloadn dL_law_359 rfl rfl ?_
  refine dt_iconst dL_law_360 ?_
  refine dt_iadd dL_law_361 ?_
  refine dt_lsld dL_law_362 (by omega) (by omega) hL ?_
  refine dt_ui2l dL_law_363 (dt_t32 _) ?_
  refine dt_bipush dL_law_364 (by decide) ?_
  refine dt_lshl dL_law_366 ?_
  refine dt_aloadSn dL_law_367 rfl rfl ?_
  refine dt_iloadn dL_law_368 rfl rfl ?_
  refine dt_iconst dL_law_369 ?_
  refine dt_iadd dL_law_370 ?_
  refine dt_lsld dL_law_371 (by omega) (by omega) hL ?_
  refine dt_ui2l dL_law_372 (dt_t32 _) ?_
  refine dt_ldc2 dL_law_373 pk_L_32 ?_
  refine dt_land dL_law_376 ?_
  refine dt_lor dL_law_377 ?_
  refine dt_aloadSn dL_law_378 rfl rfl ?_
  refine dt_iloadn dL_law_379 rfl rfl ?_
  refine dt_iconst dL_law_380 ?_
  refine dt_iadd dL_law_381 ?_
  refine dt_lsld dL_law_382 (by omega) (by omega) hL ?_
  refine dt_xV dL_law_383 pc_L_38 rfl (s_X12_feed hR1 (dt_t32 _) hC.tl.1) rfl rfl ⟨by decide, by decide⟩ rfl rfl (Nat.le_of_ble_eq_true rfl) ⟨by show _ ≤ 600000; omega, by show _ ≤ 7302250; omega⟩ ?_
  intro v2 sh2 σ2 hq2
  obtain ⟨rfl, hs2, hR2, hf2⟩ := hq2
  obtain rfl := hs2.symm
  have hC2 := hC1.kept hf2
  refine dt_lsame (tgt := 1097) dL_law_386 (by decide) ?_
  refine dt_wk (by omega) (by omega) (hk ex _ _ (by omega) hC2 hR2 (hB.same (pBs_oFeed A _ _)))
theorem law_c5 {nm : String} {b L : Nat} {xs : Nat → Int32} {ex : List dt_Shp} {σ : dt_Mem} {A : dS} {i : Nat} (hL : L ≤ 384) (hi : i + 6 ≤ L) (hC : cInv ex σ A) (hR : rInv σ A) (hB : pB A (17 * i)) (hx : ex.length ≤ 2 * i) (hk : lawK nm b L xs ex i) : dt_V (mLaw nm) room_1 (dt_LC b L xs) (100 + 2 * i) (20000 + 21 * i) 391 [some (dt_S 200), some (dt_R 0), some (dt_R 40), some (dt_I (i : Int))] [] (dt_SH ++ ex) σ := by
  have hO : aOk A 10000 := ⟨⟨(hC.ok hB).1.1, (hC.ok hB).1.2.1, Nat.le_trans hB.1 (by omega)⟩, ⟨(hC.ok hB).2.1.1, (hC.ok hB).2.1.2.1, Nat.le_trans hB.2.1 (by omega)⟩, ⟨(hC.ok hB).2.2.1.1, (hC.ok hB).2.2.1.2.1, Nat.le_trans hB.2.2.1 (by omega)⟩, hB.2.2.2⟩
  refine dt_aloadn dL_law_391 rfl rfl ?_
  refine dt_xV dL_law_392 pc_L_39 rfl (s_X11_port hC ) rfl rfl ⟨by decide, by decide⟩ rfl rfl (Nat.le_of_ble_eq_true rfl) ⟨by show _ ≤ 600000; omega, by show _ ≤ 7302250; omega⟩ ?_
  intro v1 sh1 σ1 hq1
  obtain ⟨rfl, hs1, hC1, hf1⟩ := hq1
  obtain rfl := hs1.symm
  have hR1 := hR.kept hf1
  refine dt_aloadn dL_law_395 rfl rfl ?_
  refine dt_xV dL_law_396 pc_L_43 rfl (s_X12_port hR1  hC.tl.1 hC.tl.2) rfl rfl ⟨by decide, by decide⟩ rfl rfl (Nat.le_of_ble_eq_true rfl) ⟨by show _ ≤ 600000; omega, by show _ ≤ 7302250; omega⟩ ?_
  intro v2 sh2 σ2 hq2
  obtain ⟨rfl, hs2, hR2, hf2⟩ := hq2
  obtain rfl := hs2.symm
  have hC2 := hC1.kept hf2
  refine dt_lsame (tgt := 1097) dL_law_399 (by decide) ?_
  refine dt_wk (by omega) (by omega) (hk ex _ _ (by omega) hC2 hR2 (pB_port hB))
theorem law_c6 {nm : String} {b L : Nat} {xs : Nat → Int32} {ex : List dt_Shp} {σ : dt_Mem} {A : dS} {i : Nat} (hL : L ≤ 384) (hi : i + 6 ≤ L) (hC : cInv ex σ A) (hR : rInv σ A) (hB : pB A (17 * i)) (hx : ex.length ≤ 2 * i) (hk : lawK nm b L xs ex i) : dt_V (mLaw nm) room_1 (dt_LC b L xs) (100 + 2 * i) (20000 + 21 * i) 404 [some (dt_S 200), some (dt_R 0), some (dt_R 40), some (dt_I (i : Int))] [] (dt_SH ++ ex) σ := by
  have hO : aOk A 10000 := ⟨⟨(hC.ok hB).1.1, (hC.ok hB).1.2.1, Nat.le_trans hB.1 (by omega)⟩, ⟨(hC.ok hB).2.1.1, (hC.ok hB).2.1.2.1, Nat.le_trans hB.2.1 (by omega)⟩, ⟨(hC.ok hB).2.2.1.1, (hC.ok hB).2.2.1.2.1, Nat.le_trans hB.2.2.1 (by omega)⟩, hB.2.2.2⟩
  refine dt_aloadn dL_law_404 rfl rfl ?_
  refine dt_xV dL_law_405 pc_L_44 rfl (s_X11_fault) rfl rfl ⟨by decide, by decide⟩ rfl rfl (Nat.le_of_ble_eq_true rfl) ⟨by show _ ≤ 600000; omega, by show _ ≤ 7302250; omega⟩ ?_
  intro v1 sh1 σ1 hq1
  obtain ⟨rfl, hs1, hm1⟩ := hq1
  obtain rfl := hs1.symm
  obtain rfl := hm1.symm
  have g1 : σ 0 9 = sF A := hC.2.2.2.2.2.1
  rw [g1]
  have hR1 := hR
  have hC1 := hC
  refine dt_aloadn dL_law_408 rfl rfl ?_
  refine dt_xV dL_law_409 pc_L_47 rfl (s_X12_fault hR1 ) rfl rfl ⟨by decide, by decide⟩ rfl rfl (Nat.le_of_ble_eq_true rfl) ⟨by show _ ≤ 600000; omega, by show _ ≤ 7302250; omega⟩ ?_
  intro v2 sh2 σ2 hq2
  obtain ⟨rfl, hs2, hR2, hf2⟩ := hq2
  obtain rfl := hs2.symm
  have hC2 := hC1.kept hf2
  refine dt_lsame (tgt := 1097) dL_law_412 (by decide) ?_
  refine dt_wk (by omega) (by omega) (hk ex _ _ (by omega) hC2 hR2 (hB.mono (by omega)))
theorem law_c7 {nm : String} {b L : Nat} {xs : Nat → Int32} {ex : List dt_Shp} {σ : dt_Mem} {A : dS} {i : Nat} (hL : L ≤ 384) (hi : i + 6 ≤ L) (hC : cInv ex σ A) (hR : rInv σ A) (hB : pB A (17 * i)) (hx : ex.length ≤ 2 * i) (hk : lawK nm b L xs ex i) : dt_V (mLaw nm) room_1 (dt_LC b L xs) (100 + 2 * i) (20000 + 21 * i) 417 [some (dt_S 200), some (dt_R 0), some (dt_R 40), some (dt_I (i : Int))] [] (dt_SH ++ ex) σ := by
  have hO : aOk A 10000 := ⟨⟨(hC.ok hB).1.1, (hC.ok hB).1.2.1, Nat.le_trans hB.1 (by omega)⟩, ⟨(hC.ok hB).2.1.1, (hC.ok hB).2.1.2.1, Nat.le_trans hB.2.1 (by omega)⟩, ⟨(hC.ok hB).2.2.1.1, (hC.ok hB).2.2.1.2.1, Nat.le_trans hB.2.2.1 (by omega)⟩, hB.2.2.2⟩
  refine dt_aloadn dL_law_417 rfl rfl ?_
  refine dt_aloadSn dL_law_418 rfl rfl ?_
  refine dt_iloadn dL_law_419 rfl rfl ?_
  refine dt_iconst dL_law_420 ?_
  refine dt_iadd dL_law_421 ?_
  refine dt_lsld dL_law_422 (by omega) (by omega) hL ?_
  refine dt_aloadSn dL_law_423 rfl rfl ?_
  refine dt_iloadn dL_law_424 rfl rfl ?_
  refine dt_iconst dL_law_425 ?_
  refine dt_iadd dL_law_426 ?_
  refine dt_lsld dL_law_427 (by omega) (by omega) hL ?_
  refine dt_xV dL_law_428 pc_L_48 rfl (s_X11_drift hC (dt_t32 _) (dt_t32 _) hO.1.2.2) rfl rfl ⟨by decide, by decide⟩ rfl rfl (Nat.le_of_ble_eq_true rfl) ⟨by show _ ≤ 600000; omega, by show _ ≤ 7302250; omega⟩ ?_
  intro v1 sh1 σ1 hq1
  obtain ⟨rfl, hs1, hC1, hf1⟩ := hq1
  obtain rfl := hs1.symm
  have hR1 := hR.kept hf1
  refine dt_aloadn dL_law_431 rfl rfl ?_
  refine dt_aloadSn dL_law_432 rfl rfl ?_
  refine dt_iloadn dL_law_433 rfl rfl ?_
  refine dt_iconst dL_law_434 ?_
  refine dt_iadd dL_law_435 ?_
  refine dt_lsld dL_law_436 (by omega) (by omega) hL ?_
  refine dt_aloadSn dL_law_437 rfl rfl ?_
  refine dt_iloadn dL_law_438 rfl rfl ?_
  refine dt_iconst dL_law_439 ?_
  refine dt_iadd dL_law_440 ?_
  refine dt_lsld dL_law_441 (by omega) (by omega) hL ?_
  refine dt_xV dL_law_442 pc_L_52 rfl (s_X12_drift hR1 (dt_t32 _) (dt_t32 _) hO) rfl rfl ⟨by decide, by decide⟩ rfl rfl (Nat.le_of_ble_eq_true rfl) ⟨by show _ ≤ 600000; omega, by show _ ≤ 7302250; omega⟩ ?_
  intro v2 sh2 σ2 hq2
  obtain ⟨rfl, hs2, hR2, hf2⟩ := hq2
  obtain rfl := hs2.symm
  have hC2 := hC1.kept hf2
  refine dt_lsame (tgt := 1097) dL_law_445 (by decide) ?_
  refine dt_wk (by omega) (by omega) (hk ex _ _ (by omega) hC2 hR2 (pB_drift hB hO.1.1 _ _))
theorem law_c8 {nm : String} {b L : Nat} {xs : Nat → Int32} {ex : List dt_Shp} {σ : dt_Mem} {A : dS} {i : Nat} (hL : L ≤ 384) (hi : i + 6 ≤ L) (hC : cInv ex σ A) (hR : rInv σ A) (hB : pB A (17 * i)) (hx : ex.length ≤ 2 * i) (hk : lawK nm b L xs ex i) : dt_V (mLaw nm) room_1 (dt_LC b L xs) (100 + 2 * i) (20000 + 21 * i) 450 [some (dt_S 200), some (dt_R 0), some (dt_R 40), some (dt_I (i : Int))] [] (dt_SH ++ ex) σ := by
  have hO : aOk A 10000 := ⟨⟨(hC.ok hB).1.1, (hC.ok hB).1.2.1, Nat.le_trans hB.1 (by omega)⟩, ⟨(hC.ok hB).2.1.1, (hC.ok hB).2.1.2.1, Nat.le_trans hB.2.1 (by omega)⟩, ⟨(hC.ok hB).2.2.1.1, (hC.ok hB).2.2.1.2.1, Nat.le_trans hB.2.2.1 (by omega)⟩, hB.2.2.2⟩
  refine dt_aloadn dL_law_450 rfl rfl ?_
  refine dt_aloadSn dL_law_451 rfl rfl ?_
  refine dt_iloadn dL_law_452 rfl rfl ?_
  refine dt_iconst dL_law_453 ?_
  refine dt_iadd dL_law_454 ?_
  refine dt_lsld dL_law_455 (by omega) (by omega) hL ?_
  refine dt_aloadSn dL_law_456 rfl rfl ?_
  refine dt_iloadn dL_law_457 rfl rfl ?_
  refine dt_iconst dL_law_458 ?_
  refine dt_iadd dL_law_459 ?_
  refine dt_lsld dL_law_460 (by omega) (by omega) hL ?_
  refine dt_aloadSn dL_law_461 rfl rfl ?_
  refine dt_iloadn dL_law_462 rfl rfl ?_
  refine dt_iconst dL_law_463 ?_
  refine dt_iadd dL_law_464 ?_
  refine dt_lsld dL_law_465 (by omega) (by omega) hL ?_
  refine dt_xV dL_law_466 pc_L_53 rfl (s_X11_word hC (dt_t32 _) (dt_t32 _) (dt_t32 _)) rfl rfl ⟨by decide, by decide⟩ rfl rfl (Nat.le_of_ble_eq_true rfl) ⟨by show _ ≤ 600000; omega, by show _ ≤ 7302250; omega⟩ ?_
  intro v1 sh1 σ1 hq1
  obtain ⟨rfl, hs1, hC1, hf1⟩ := hq1
  obtain rfl := hs1.symm
  have hR1 := hR.kept hf1
  refine dt_aloadn dL_law_469 rfl rfl ?_
  refine dt_aloadSn dL_law_470 rfl rfl ?_
  refine dt_iloadn dL_law_471 rfl rfl ?_
  refine dt_iconst dL_law_472 ?_
  refine dt_iadd dL_law_473 ?_
  refine dt_lsld dL_law_474 (by omega) (by omega) hL ?_
  refine dt_aloadSn dL_law_475 rfl rfl ?_
  refine dt_iloadn dL_law_476 rfl rfl ?_
  refine dt_iconst dL_law_477 ?_
  refine dt_iadd dL_law_478 ?_
  refine dt_lsld dL_law_479 (by omega) (by omega) hL ?_
  refine dt_aloadSn dL_law_480 rfl rfl ?_
  refine dt_iloadn dL_law_481 rfl rfl ?_
  refine dt_iconst dL_law_482 ?_
  refine dt_iadd dL_law_483 ?_
  refine dt_lsld dL_law_484 (by omega) (by omega) hL ?_
  refine dt_xV dL_law_485 pc_L_56 rfl (s_X12_word hR1 (dt_t32 _) (dt_t32 _) (dt_t32 _) (hC.ok hB).1.1) rfl rfl ⟨by decide, by decide⟩ rfl rfl (Nat.le_of_ble_eq_true rfl) ⟨by show _ ≤ 600000; omega, by show _ ≤ 7302250; omega⟩ ?_
  intro v2 sh2 σ2 hq2
  obtain ⟨rfl, hs2, hR2, hf2⟩ := hq2
  obtain rfl := hs2.symm
  have hC2 := hC1.kept hf2
  refine dt_lsame (tgt := 1097) dL_law_488 (by decide) ?_
  refine dt_wk (by omega) (by omega) (hk ex _ _ (by omega) hC2 hR2 (hB.same (pBs_oWord A _ _ _)))
theorem law_c9 {nm : String} {b L : Nat} {xs : Nat → Int32} {ex : List dt_Shp} {σ : dt_Mem} {A : dS} {i : Nat} (hL : L ≤ 384) (hi : i + 6 ≤ L) (hC : cInv ex σ A) (hR : rInv σ A) (hB : pB A (17 * i)) (hx : ex.length ≤ 2 * i) (hk : lawK nm b L xs ex i) : dt_V (mLaw nm) room_1 (dt_LC b L xs) (100 + 2 * i) (20000 + 21 * i) 493 [some (dt_S 200), some (dt_R 0), some (dt_R 40), some (dt_I (i : Int))] [] (dt_SH ++ ex) σ := by
  have hO : aOk A 10000 := ⟨⟨(hC.ok hB).1.1, (hC.ok hB).1.2.1, Nat.le_trans hB.1 (by omega)⟩, ⟨(hC.ok hB).2.1.1, (hC.ok hB).2.1.2.1, Nat.le_trans hB.2.1 (by omega)⟩, ⟨(hC.ok hB).2.2.1.1, (hC.ok hB).2.2.1.2.1, Nat.le_trans hB.2.2.1 (by omega)⟩, hB.2.2.2⟩
  refine dt_aloadn dL_law_493 rfl rfl ?_
  refine dt_aloadSn dL_law_494 rfl rfl ?_
  refine dt_iloadn dL_law_495 rfl rfl ?_
  refine dt_iconst dL_law_496 ?_
  refine dt_iadd dL_law_497 ?_
  refine dt_lsld dL_law_498 (by omega) (by omega) hL ?_
  refine dt_xV dL_law_499 pc_L_57 rfl (s_X11_words hC (dt_t32 _)) rfl rfl ⟨by decide, by decide⟩ rfl rfl (Nat.le_of_ble_eq_true rfl) ⟨by show _ ≤ 600000; omega, by show _ ≤ 7302250; omega⟩ ?_
  intro v1 sh1 σ1 hq1
  obtain ⟨rfl, hs1, hC1, hf1⟩ := hq1
  obtain rfl := hs1.symm
  have hR1 := hR.kept hf1
  refine dt_aloadn dL_law_502 rfl rfl ?_
  refine dt_aloadSn dL_law_503 rfl rfl ?_
  refine dt_iloadn dL_law_504 rfl rfl ?_
  refine dt_iconst dL_law_505 ?_
  refine dt_iadd dL_law_506 ?_
  refine dt_lsld dL_law_507 (by omega) (by omega) hL ?_
  refine dt_xV dL_law_508 pc_L_60 rfl (s_X12_words hR1 (dt_t32 _) (hC.ok hB).1.1) rfl rfl ⟨by decide, by decide⟩ rfl rfl (Nat.le_of_ble_eq_true rfl) ⟨by show _ ≤ 600000; omega, by show _ ≤ 7302250; omega⟩ ?_
  intro v2 sh2 σ2 hq2
  obtain ⟨rfl, hs2, hR2, hf2⟩ := hq2
  obtain rfl := hs2.symm
  have hC2 := hC1.kept hf2
  refine dt_lsame (tgt := 1097) dL_law_511 (by decide) ?_
  refine dt_wk (by omega) (by omega) (hk ex _ _ (by omega) hC2 hR2 (hB.same (pBs_oWords A _)))
theorem law_c10 {nm : String} {b L : Nat} {xs : Nat → Int32} {ex : List dt_Shp} {σ : dt_Mem} {A : dS} {i : Nat} (hL : L ≤ 384) (hi : i + 6 ≤ L) (hC : cInv ex σ A) (hR : rInv σ A) (hB : pB A (17 * i)) (hx : ex.length ≤ 2 * i) (hk : lawK nm b L xs ex i) : dt_V (mLaw nm) room_1 (dt_LC b L xs) (100 + 2 * i) (20000 + 21 * i) 516 [some (dt_S 200), some (dt_R 0), some (dt_R 40), some (dt_I (i : Int))] [] (dt_SH ++ ex) σ := by
  have hO : aOk A 10000 := ⟨⟨(hC.ok hB).1.1, (hC.ok hB).1.2.1, Nat.le_trans hB.1 (by omega)⟩, ⟨(hC.ok hB).2.1.1, (hC.ok hB).2.1.2.1, Nat.le_trans hB.2.1 (by omega)⟩, ⟨(hC.ok hB).2.2.1.1, (hC.ok hB).2.2.1.2.1, Nat.le_trans hB.2.2.1 (by omega)⟩, hB.2.2.2⟩
  refine dt_aloadn dL_law_516 rfl rfl ?_
  refine dt_aloadSn dL_law_517 rfl rfl ?_
  refine dt_iloadn dL_law_518 rfl rfl ?_
  refine dt_iconst dL_law_519 ?_
  refine dt_iadd dL_law_520 ?_
  refine dt_lsld dL_law_521 (by omega) (by omega) hL ?_
  refine dt_xV dL_law_522 pc_L_61 rfl (s_X11_knows hC (dt_t32 _)) rfl rfl ⟨by decide, by decide⟩ rfl rfl (Nat.le_of_ble_eq_true rfl) ⟨by show _ ≤ 600000; omega, by show _ ≤ 7302250; omega⟩ ?_
  intro v1 sh1 σ1 hq1
  obtain ⟨rfl, hs1, hC1, hf1⟩ := hq1
  obtain rfl := hs1.symm
  have hR1 := hR.kept hf1
  refine dt_aloadn dL_law_525 rfl rfl ?_
  refine dt_aloadSn dL_law_526 rfl rfl ?_
  refine dt_iloadn dL_law_527 rfl rfl ?_
  refine dt_iconst dL_law_528 ?_
  refine dt_iadd dL_law_529 ?_
  refine dt_lsld dL_law_530 (by omega) (by omega) hL ?_
  refine dt_xV dL_law_531 pc_L_64 rfl (s_X12_knows hR1 (dt_t32 _) (hC.ok hB).1.1) rfl rfl ⟨by decide, by decide⟩ rfl rfl (Nat.le_of_ble_eq_true rfl) ⟨by show _ ≤ 600000; omega, by show _ ≤ 7302250; omega⟩ ?_
  intro v2 sh2 σ2 hq2
  obtain ⟨rfl, hs2, hR2, hf2⟩ := hq2
  obtain rfl := hs2.symm
  have hC2 := hC1.kept hf2
  refine dt_lsame (tgt := 1097) dL_law_534 (by decide) ?_
  refine dt_wk (by omega) (by omega) (hk ex _ _ (by omega) hC2 hR2 (hB.same (pBs_oKnows A _)))
theorem law_c11 {nm : String} {b L : Nat} {xs : Nat → Int32} {ex : List dt_Shp} {σ : dt_Mem} {A : dS} {i : Nat} (hL : L ≤ 384) (hi : i + 6 ≤ L) (hC : cInv ex σ A) (hR : rInv σ A) (hB : pB A (17 * i)) (hx : ex.length ≤ 2 * i) (hk : lawK nm b L xs ex i) : dt_V (mLaw nm) room_1 (dt_LC b L xs) (100 + 2 * i) (20000 + 21 * i) 539 [some (dt_S 200), some (dt_R 0), some (dt_R 40), some (dt_I (i : Int))] [] (dt_SH ++ ex) σ := by
  have hO : aOk A 10000 := ⟨⟨(hC.ok hB).1.1, (hC.ok hB).1.2.1, Nat.le_trans hB.1 (by omega)⟩, ⟨(hC.ok hB).2.1.1, (hC.ok hB).2.1.2.1, Nat.le_trans hB.2.1 (by omega)⟩, ⟨(hC.ok hB).2.2.1.1, (hC.ok hB).2.2.1.2.1, Nat.le_trans hB.2.2.1 (by omega)⟩, hB.2.2.2⟩
  refine dt_aloadn dL_law_539 rfl rfl ?_
  refine dt_aloadSn dL_law_540 rfl rfl ?_
  refine dt_iloadn dL_law_541 rfl rfl ?_
  refine dt_iconst dL_law_542 ?_
  refine dt_iadd dL_law_543 ?_
  refine dt_lsld dL_law_544 (by omega) (by omega) hL ?_
  refine dt_aloadSn dL_law_545 rfl rfl ?_
  refine dt_iloadn dL_law_546 rfl rfl ?_
  refine dt_iconst dL_law_547 ?_
  refine dt_iadd dL_law_548 ?_
  refine dt_lsld dL_law_549 (by omega) (by omega) hL ?_
  refine dt_aloadSn dL_law_550 rfl rfl ?_
  refine dt_iloadn dL_law_551 rfl rfl ?_
  refine dt_iconst dL_law_552 ?_
  refine dt_iadd dL_law_553 ?_
  refine dt_lsld dL_law_554 (by omega) (by omega) hL ?_
  refine dt_aloadSn dL_law_555 rfl rfl ?_
  refine dt_iloadn dL_law_556 rfl rfl ?_
  refine dt_iconst dL_law_557 ?_
  refine dt_iadd dL_law_558 ?_
  refine dt_lsld dL_law_559 (by omega) (by omega) hL ?_
  refine dt_aloadSn dL_law_560 rfl rfl ?_
  refine dt_iloadn dL_law_561 rfl rfl ?_
  refine dt_iconst dL_law_562 ?_
  refine dt_iadd dL_law_563 ?_
  refine dt_lsld dL_law_564 (by omega) (by omega) hL ?_
  refine dt_xV dL_law_565 pc_L_65 rfl (s_X11_means hC (dt_t32 _) (dt_t32 _) (dt_t32 _) (dt_t32 _) (dt_t32 _)) rfl rfl ⟨by decide, by decide⟩ rfl rfl (Nat.le_of_ble_eq_true rfl) ⟨by show _ ≤ 600000; omega, by show _ ≤ 7302250; omega⟩ ?_
  intro v1 sh1 σ1 hq1
  obtain ⟨rfl, hs1, hC1, hf1⟩ := hq1
  obtain rfl := hs1.symm
  have hR1 := hR.kept hf1
  refine dt_aloadn dL_law_568 rfl rfl ?_
  refine dt_aloadSn dL_law_569 rfl rfl ?_
  refine dt_iloadn dL_law_570 rfl rfl ?_
  refine dt_iconst dL_law_571 ?_
  refine dt_iadd dL_law_572 ?_
  refine dt_lsld dL_law_573 (by omega) (by omega) hL ?_
  refine dt_aloadSn dL_law_574 rfl rfl ?_
  refine dt_iloadn dL_law_575 rfl rfl ?_
  refine dt_iconst dL_law_576 ?_
  refine dt_iadd dL_law_577 ?_
  refine dt_lsld dL_law_578 (by omega) (by omega) hL ?_
  refine dt_aloadSn dL_law_579 rfl rfl ?_
  refine dt_iloadn dL_law_580 rfl rfl ?_
  refine dt_iconst dL_law_581 ?_
  refine dt_iadd dL_law_582 ?_
  refine dt_lsld dL_law_583 (by omega) (by omega) hL ?_
  refine dt_aloadSn dL_law_584 rfl rfl ?_
  refine dt_iloadn dL_law_585 rfl rfl ?_
  refine dt_iconst dL_law_586 ?_
  refine dt_iadd dL_law_587 ?_
  refine dt_lsld dL_law_588 (by omega) (by omega) hL ?_
  refine dt_aloadSn dL_law_589 rfl rfl ?_
  refine dt_iloadn dL_law_590 rfl rfl ?_
  refine dt_iconst dL_law_591 ?_
  refine dt_iadd dL_law_592 ?_
  refine dt_lsld dL_law_593 (by omega) (by omega) hL ?_
  refine dt_xV dL_law_594 pc_L_68 rfl (s_X12_means hR1 (dt_t32 _) (dt_t32 _) (dt_t32 _) (dt_t32 _) (dt_t32 _) (hC.ok hB).1.1) rfl rfl ⟨by decide, by decide⟩ rfl rfl (Nat.le_of_ble_eq_true rfl) ⟨by show _ ≤ 600000; omega, by show _ ≤ 7302250; omega⟩ ?_
  intro v2 sh2 σ2 hq2
  obtain ⟨rfl, hs2, hR2, hf2⟩ := hq2
  obtain rfl := hs2.symm
  have hC2 := hC1.kept hf2
  refine dt_lsame (tgt := 1097) dL_law_597 (by decide) ?_
  refine dt_wk (by omega) (by omega) (hk ex _ _ (by omega) hC2 hR2 (hB.same (pBs_oMeans A _ _ _ _ _)))
theorem law_c12 {nm : String} {b L : Nat} {xs : Nat → Int32} {ex : List dt_Shp} {σ : dt_Mem} {A : dS} {i : Nat} (hL : L ≤ 384) (hi : i + 6 ≤ L) (hC : cInv ex σ A) (hR : rInv σ A) (hB : pB A (17 * i)) (hx : ex.length ≤ 2 * i) (hk : lawK nm b L xs ex i) : dt_V (mLaw nm) room_1 (dt_LC b L xs) (100 + 2 * i) (20000 + 21 * i) 602 [some (dt_S 200), some (dt_R 0), some (dt_R 40), some (dt_I (i : Int))] [] (dt_SH ++ ex) σ := by
  have hO : aOk A 10000 := ⟨⟨(hC.ok hB).1.1, (hC.ok hB).1.2.1, Nat.le_trans hB.1 (by omega)⟩, ⟨(hC.ok hB).2.1.1, (hC.ok hB).2.1.2.1, Nat.le_trans hB.2.1 (by omega)⟩, ⟨(hC.ok hB).2.2.1.1, (hC.ok hB).2.2.1.2.1, Nat.le_trans hB.2.2.1 (by omega)⟩, hB.2.2.2⟩
  refine dt_aloadn dL_law_602 rfl rfl ?_
  refine dt_aloadSn dL_law_603 rfl rfl ?_
  refine dt_iloadn dL_law_604 rfl rfl ?_
  refine dt_iconst dL_law_605 ?_
  refine dt_iadd dL_law_606 ?_
  refine dt_lsld dL_law_607 (by omega) (by omega) hL ?_
  refine dt_aloadSn dL_law_608 rfl rfl ?_
  refine dt_iloadn dL_law_609 rfl rfl ?_
  refine dt_iconst dL_law_610 ?_
  refine dt_iadd dL_law_611 ?_
  refine dt_lsld dL_law_612 (by omega) (by omega) hL ?_
  refine dt_aloadSn dL_law_613 rfl rfl ?_
  refine dt_iloadn dL_law_614 rfl rfl ?_
  refine dt_iconst dL_law_615 ?_
  refine dt_iadd dL_law_616 ?_
  refine dt_lsld dL_law_617 (by omega) (by omega) hL ?_
  refine dt_aloadSn dL_law_618 rfl rfl ?_
  refine dt_iloadn dL_law_619 rfl rfl ?_
  refine dt_iconst dL_law_620 ?_
  refine dt_iadd dL_law_621 ?_
  refine dt_lsld dL_law_622 (by omega) (by omega) hL ?_
  refine dt_xV dL_law_623 pc_L_69 rfl (s_X11_shortest hC (dt_t32 _) (dt_t32 _) (dt_t32 _) (dt_t32 _)) rfl rfl ⟨by decide, by decide⟩ rfl rfl (Nat.le_of_ble_eq_true rfl) ⟨by show _ ≤ 600000; omega, by show _ ≤ 7302250; omega⟩ ?_
  intro v1 sh1 σ1 hq1
  obtain ⟨rfl, hs1, hC1, hf1⟩ := hq1
  obtain rfl := hs1.symm
  have hR1 := hR.kept hf1
  refine dt_aloadn dL_law_626 rfl rfl ?_
  refine dt_aloadSn dL_law_627 rfl rfl ?_
  refine dt_iloadn dL_law_628 rfl rfl ?_
  refine dt_iconst dL_law_629 ?_
  refine dt_iadd dL_law_630 ?_
  refine dt_lsld dL_law_631 (by omega) (by omega) hL ?_
  refine dt_aloadSn dL_law_632 rfl rfl ?_
  refine dt_iloadn dL_law_633 rfl rfl ?_
  refine dt_iconst dL_law_634 ?_
  refine dt_iadd dL_law_635 ?_
  refine dt_lsld dL_law_636 (by omega) (by omega) hL ?_
  refine dt_aloadSn dL_law_637 rfl rfl ?_
  refine dt_iloadn dL_law_638 rfl rfl ?_
  refine dt_iconst dL_law_639 ?_
  refine dt_iadd dL_law_640 ?_
  refine dt_lsld dL_law_641 (by omega) (by omega) hL ?_
  refine dt_aloadSn dL_law_642 rfl rfl ?_
  refine dt_iloadn dL_law_643 rfl rfl ?_
  refine dt_iconst dL_law_644 ?_
  refine dt_iadd dL_law_645 ?_
  refine dt_lsld dL_law_646 (by omega) (by omega) hL ?_
  refine dt_xV dL_law_647 pc_L_73 rfl (s_X12_shortest hR1 (dt_t32 _) (dt_t32 _) (dt_t32 _) (dt_t32 _) (hC.ok hB).1.1) rfl rfl ⟨by decide, by decide⟩ rfl rfl (Nat.le_of_ble_eq_true rfl) ⟨by show _ ≤ 600000; omega, by show _ ≤ 7302250; omega⟩ ?_
  intro v2 sh2 σ2 hq2
  obtain ⟨rfl, hs2, hR2, hf2⟩ := hq2
  obtain rfl := hs2.symm
  have hC2 := hC1.kept hf2
  refine dt_lsame (tgt := 1097) dL_law_650 (by decide) ?_
  refine dt_wk (by omega) (by omega) (hk ex _ _ (by omega) hC2 hR2 (hB.same (pBs_oShort A _ _ _ _)))
theorem law_c13 {nm : String} {b L : Nat} {xs : Nat → Int32} {ex : List dt_Shp} {σ : dt_Mem} {A : dS} {i : Nat} (hL : L ≤ 384) (hi : i + 6 ≤ L) (hC : cInv ex σ A) (hR : rInv σ A) (hB : pB A (17 * i)) (hx : ex.length ≤ 2 * i) (hk : lawK nm b L xs ex i) : dt_V (mLaw nm) room_1 (dt_LC b L xs) (100 + 2 * i) (20000 + 21 * i) 655 [some (dt_S 200), some (dt_R 0), some (dt_R 40), some (dt_I (i : Int))] [] (dt_SH ++ ex) σ := by
  have hO : aOk A 10000 := ⟨⟨(hC.ok hB).1.1, (hC.ok hB).1.2.1, Nat.le_trans hB.1 (by omega)⟩, ⟨(hC.ok hB).2.1.1, (hC.ok hB).2.1.2.1, Nat.le_trans hB.2.1 (by omega)⟩, ⟨(hC.ok hB).2.2.1.1, (hC.ok hB).2.2.1.2.1, Nat.le_trans hB.2.2.1 (by omega)⟩, hB.2.2.2⟩
  refine dt_aloadn dL_law_655 rfl rfl ?_
  refine dt_aloadSn dL_law_656 rfl rfl ?_
  refine dt_iloadn dL_law_657 rfl rfl ?_
  refine dt_iconst dL_law_658 ?_
  refine dt_iadd dL_law_659 ?_
  refine dt_lsld dL_law_660 (by omega) (by omega) hL ?_
  refine dt_aloadSn dL_law_661 rfl rfl ?_
  refine dt_iloadn dL_law_662 rfl rfl ?_
  refine dt_iconst dL_law_663 ?_
  refine dt_iadd dL_law_664 ?_
  refine dt_lsld dL_law_665 (by omega) (by omega) hL ?_
  refine dt_xV dL_law_666 pc_L_74 rfl (s_X11_sayable hC (dt_t32 _) (dt_t32 _)) rfl rfl ⟨by decide, by decide⟩ rfl rfl (Nat.le_of_ble_eq_true rfl) ⟨by show _ ≤ 600000; omega, by show _ ≤ 7302250; omega⟩ ?_
  intro v1 sh1 σ1 hq1
  obtain ⟨rfl, hs1, hC1, hf1⟩ := hq1
  obtain rfl := hs1.symm
  have hR1 := hR.kept hf1
  refine dt_aloadn dL_law_669 rfl rfl ?_
  refine dt_aloadSn dL_law_670 rfl rfl ?_
  refine dt_iloadn dL_law_671 rfl rfl ?_
  refine dt_iconst dL_law_672 ?_
  refine dt_iadd dL_law_673 ?_
  refine dt_lsld dL_law_674 (by omega) (by omega) hL ?_
  refine dt_aloadSn dL_law_675 rfl rfl ?_
  refine dt_iloadn dL_law_676 rfl rfl ?_
  refine dt_iconst dL_law_677 ?_
  refine dt_iadd dL_law_678 ?_
  refine dt_lsld dL_law_679 (by omega) (by omega) hL ?_
  refine dt_xV dL_law_680 pc_L_77 rfl (s_X12_sayable hR1 (dt_t32 _) (dt_t32 _) (hC.ok hB).1.1) rfl rfl ⟨by decide, by decide⟩ rfl rfl (Nat.le_of_ble_eq_true rfl) ⟨by show _ ≤ 600000; omega, by show _ ≤ 7302250; omega⟩ ?_
  intro v2 sh2 σ2 hq2
  obtain ⟨rfl, hs2, hR2, hf2⟩ := hq2
  obtain rfl := hs2.symm
  have hC2 := hC1.kept hf2
  refine dt_lsame (tgt := 1097) dL_law_683 (by decide) ?_
  refine dt_wk (by omega) (by omega) (hk ex _ _ (by omega) hC2 hR2 (hB.same (pBs_oSayable A _ _)))
theorem law_c14 {nm : String} {b L : Nat} {xs : Nat → Int32} {ex : List dt_Shp} {σ : dt_Mem} {A : dS} {i : Nat} (hL : L ≤ 384) (hi : i + 6 ≤ L) (hC : cInv ex σ A) (hR : rInv σ A) (hB : pB A (17 * i)) (hx : ex.length ≤ 2 * i) (hk : lawK nm b L xs ex i) : dt_V (mLaw nm) room_1 (dt_LC b L xs) (100 + 2 * i) (20000 + 21 * i) 688 [some (dt_S 200), some (dt_R 0), some (dt_R 40), some (dt_I (i : Int))] [] (dt_SH ++ ex) σ := by
  have hO : aOk A 10000 := ⟨⟨(hC.ok hB).1.1, (hC.ok hB).1.2.1, Nat.le_trans hB.1 (by omega)⟩, ⟨(hC.ok hB).2.1.1, (hC.ok hB).2.1.2.1, Nat.le_trans hB.2.1 (by omega)⟩, ⟨(hC.ok hB).2.2.1.1, (hC.ok hB).2.2.1.2.1, Nat.le_trans hB.2.2.1 (by omega)⟩, hB.2.2.2⟩
  refine dt_aloadn dL_law_688 rfl rfl ?_
  refine dt_aloadSn dL_law_689 rfl rfl ?_
  refine dt_iloadn dL_law_690 rfl rfl ?_
  refine dt_iconst dL_law_691 ?_
  refine dt_iadd dL_law_692 ?_
  refine dt_lsld dL_law_693 (by omega) (by omega) hL ?_
  refine dt_aloadSn dL_law_694 rfl rfl ?_
  refine dt_iloadn dL_law_695 rfl rfl ?_
  refine dt_iconst dL_law_696 ?_
  refine dt_iadd dL_law_697 ?_
  refine dt_lsld dL_law_698 (by omega) (by omega) hL ?_
  refine dt_aloadSn dL_law_699 rfl rfl ?_
  refine dt_iloadn dL_law_700 rfl rfl ?_
  refine dt_iconst dL_law_701 ?_
  refine dt_iadd dL_law_702 ?_
  refine dt_lsld dL_law_703 (by omega) (by omega) hL ?_
  refine dt_xV dL_law_704 pc_L_78 rfl (s_X11_bargain hC (dt_t32 _) (dt_t32 _) (dt_t32 _)) rfl rfl ⟨by decide, by decide⟩ rfl rfl (Nat.le_of_ble_eq_true rfl) ⟨by show _ ≤ 600000; omega, by show _ ≤ 7302250; omega⟩ ?_
  intro v1 sh1 σ1 hq1
  obtain ⟨rfl, hs1, hC1, hf1⟩ := hq1
  obtain rfl := hs1.symm
  have hR1 := hR.kept hf1
  refine dt_aloadn dL_law_707 rfl rfl ?_
  refine dt_aloadSn dL_law_708 rfl rfl ?_
  refine dt_iloadn dL_law_709 rfl rfl ?_
  refine dt_iconst dL_law_710 ?_
  refine dt_iadd dL_law_711 ?_
  refine dt_lsld dL_law_712 (by omega) (by omega) hL ?_
  refine dt_aloadSn dL_law_713 rfl rfl ?_
  refine dt_iloadn dL_law_714 rfl rfl ?_
  refine dt_iconst dL_law_715 ?_
  refine dt_iadd dL_law_716 ?_
  refine dt_lsld dL_law_717 (by omega) (by omega) hL ?_
  refine dt_aloadSn dL_law_718 rfl rfl ?_
  refine dt_iloadn dL_law_719 rfl rfl ?_
  refine dt_iconst dL_law_720 ?_
  refine dt_iadd dL_law_721 ?_
  refine dt_lsld dL_law_722 (by omega) (by omega) hL ?_
  refine dt_xV dL_law_723 pc_L_81 rfl (s_X12_bargain hR1 (dt_t32 _) (dt_t32 _) (dt_t32 _) (hC.ok hB).1.1) rfl rfl ⟨by decide, by decide⟩ rfl rfl (Nat.le_of_ble_eq_true rfl) ⟨by show _ ≤ 600000; omega, by show _ ≤ 7302250; omega⟩ ?_
  intro v2 sh2 σ2 hq2
  obtain ⟨rfl, hs2, hR2, hf2⟩ := hq2
  obtain rfl := hs2.symm
  have hC2 := hC1.kept hf2
  refine dt_lsame (tgt := 1097) dL_law_726 (by decide) ?_
  refine dt_wk (by omega) (by omega) (hk ex _ _ (by omega) hC2 hR2 (hB.same (pBs_oBargain A _ _ _)))
theorem law_c15 {nm : String} {b L : Nat} {xs : Nat → Int32} {ex : List dt_Shp} {σ : dt_Mem} {A : dS} {i : Nat} (hL : L ≤ 384) (hi : i + 6 ≤ L) (hC : cInv ex σ A) (hR : rInv σ A) (hB : pB A (17 * i)) (hx : ex.length ≤ 2 * i) (hk : lawK nm b L xs ex i) : dt_V (mLaw nm) room_1 (dt_LC b L xs) (100 + 2 * i) (20000 + 21 * i) 731 [some (dt_S 200), some (dt_R 0), some (dt_R 40), some (dt_I (i : Int))] [] (dt_SH ++ ex) σ := by
  have hO : aOk A 10000 := ⟨⟨(hC.ok hB).1.1, (hC.ok hB).1.2.1, Nat.le_trans hB.1 (by omega)⟩, ⟨(hC.ok hB).2.1.1, (hC.ok hB).2.1.2.1, Nat.le_trans hB.2.1 (by omega)⟩, ⟨(hC.ok hB).2.2.1.1, (hC.ok hB).2.2.1.2.1, Nat.le_trans hB.2.2.1 (by omega)⟩, hB.2.2.2⟩
  refine dt_aloadn dL_law_731 rfl rfl ?_
  refine dt_aloadSn dL_law_732 rfl rfl ?_
  refine dt_iloadn dL_law_733 rfl rfl ?_
  refine dt_iconst dL_law_734 ?_
  refine dt_iadd dL_law_735 ?_
  refine dt_lsld dL_law_736 (by omega) (by omega) hL ?_
  refine dt_aloadSn dL_law_737 rfl rfl ?_
  refine dt_iloadn dL_law_738 rfl rfl ?_
  refine dt_iconst dL_law_739 ?_
  refine dt_iadd dL_law_740 ?_
  refine dt_lsld dL_law_741 (by omega) (by omega) hL ?_
  refine dt_aloadSn dL_law_742 rfl rfl ?_
  refine dt_iloadn dL_law_743 rfl rfl ?_
  refine dt_iconst dL_law_744 ?_
  refine dt_iadd dL_law_745 ?_
  refine dt_lsld dL_law_746 (by omega) (by omega) hL ?_
  refine dt_xV dL_law_747 pc_L_82 rfl (s_X11_understands hC (dt_t32 _) (dt_t32 _) (dt_t32 _)) rfl rfl ⟨by decide, by decide⟩ rfl rfl (Nat.le_of_ble_eq_true rfl) ⟨by show _ ≤ 600000; omega, by show _ ≤ 7302250; omega⟩ ?_
  intro v1 sh1 σ1 hq1
  obtain ⟨rfl, hs1, hC1, hf1⟩ := hq1
  obtain rfl := hs1.symm
  have hR1 := hR.kept hf1
  refine dt_aloadn dL_law_750 rfl rfl ?_
  refine dt_aloadSn dL_law_751 rfl rfl ?_
  refine dt_iloadn dL_law_752 rfl rfl ?_
  refine dt_iconst dL_law_753 ?_
  refine dt_iadd dL_law_754 ?_
  refine dt_lsld dL_law_755 (by omega) (by omega) hL ?_
  refine dt_aloadSn dL_law_756 rfl rfl ?_
  refine dt_iloadn dL_law_757 rfl rfl ?_
  refine dt_iconst dL_law_758 ?_
  refine dt_iadd dL_law_759 ?_
  refine dt_lsld dL_law_760 (by omega) (by omega) hL ?_
  refine dt_aloadSn dL_law_761 rfl rfl ?_
  refine dt_iloadn dL_law_762 rfl rfl ?_
  refine dt_iconst dL_law_763 ?_
  refine dt_iadd dL_law_764 ?_
  refine dt_lsld dL_law_765 (by omega) (by omega) hL ?_
  refine dt_xV dL_law_766 pc_L_85 rfl (s_X12_understands hR1 (dt_t32 _) (dt_t32 _) (dt_t32 _) (hC.ok hB).1.1 (hC.ok hB).1.2.1) rfl rfl ⟨by decide, by decide⟩ rfl rfl (Nat.le_of_ble_eq_true rfl) ⟨by show _ ≤ 600000; omega, by show _ ≤ 7302250; omega⟩ ?_
  intro v2 sh2 σ2 hq2
  obtain ⟨rfl, hs2, hR2, hf2⟩ := hq2
  obtain rfl := hs2.symm
  have hC2 := hC1.kept hf2
  refine dt_lsame (tgt := 1097) dL_law_769 (by decide) ?_
  refine dt_wk (by omega) (by omega) (hk ex _ _ (by omega) hC2 hR2 (hB.same (pBs_oUnder A _ _ _)))
theorem law_c16 {nm : String} {b L : Nat} {xs : Nat → Int32} {ex : List dt_Shp} {σ : dt_Mem} {A : dS} {i : Nat} (hL : L ≤ 384) (hi : i + 6 ≤ L) (hC : cInv ex σ A) (hR : rInv σ A) (hB : pB A (17 * i)) (hx : ex.length ≤ 2 * i) (hk : lawK nm b L xs ex i) : dt_V (mLaw nm) room_1 (dt_LC b L xs) (100 + 2 * i) (20000 + 21 * i) 774 [some (dt_S 200), some (dt_R 0), some (dt_R 40), some (dt_I (i : Int))] [] (dt_SH ++ ex) σ := by
  have hO : aOk A 10000 := ⟨⟨(hC.ok hB).1.1, (hC.ok hB).1.2.1, Nat.le_trans hB.1 (by omega)⟩, ⟨(hC.ok hB).2.1.1, (hC.ok hB).2.1.2.1, Nat.le_trans hB.2.1 (by omega)⟩, ⟨(hC.ok hB).2.2.1.1, (hC.ok hB).2.2.1.2.1, Nat.le_trans hB.2.2.1 (by omega)⟩, hB.2.2.2⟩
  refine dt_aloadn dL_law_774 rfl rfl ?_
  refine dt_aloadSn dL_law_775 rfl rfl ?_
  refine dt_iloadn dL_law_776 rfl rfl ?_
  refine dt_iconst dL_law_777 ?_
  refine dt_iadd dL_law_778 ?_
  refine dt_lsld dL_law_779 (by omega) (by omega) hL ?_
  refine dt_xV dL_law_780 pc_L_86 rfl (s_X11_week hC (dt_t32 _)) rfl rfl ⟨by decide, by decide⟩ rfl rfl (Nat.le_of_ble_eq_true rfl) ⟨by show _ ≤ 600000; omega, by show _ ≤ 7302250; omega⟩ ?_
  intro v1 sh1 σ1 hq1
  obtain ⟨rfl, hs1, hC1, hf1⟩ := hq1
  obtain rfl := hs1.symm
  have hR1 := hR.kept hf1
  refine dt_aloadn dL_law_783 rfl rfl ?_
  refine dt_aloadSn dL_law_784 rfl rfl ?_
  refine dt_iloadn dL_law_785 rfl rfl ?_
  refine dt_iconst dL_law_786 ?_
  refine dt_iadd dL_law_787 ?_
  refine dt_lsld dL_law_788 (by omega) (by omega) hL ?_
  refine dt_xV dL_law_789 pc_L_89 rfl (s_X12_week hR1 (dt_t32 _) (hC.ok hB).1.1) rfl rfl ⟨by decide, by decide⟩ rfl rfl (Nat.le_of_ble_eq_true rfl) ⟨by show _ ≤ 600000; omega, by show _ ≤ 7302250; omega⟩ ?_
  intro v2 sh2 σ2 hq2
  obtain ⟨rfl, hs2, hR2, hf2⟩ := hq2
  obtain rfl := hs2.symm
  have hC2 := hC1.kept hf2
  refine dt_lsame (tgt := 1097) dL_law_792 (by decide) ?_
  refine dt_wk (by omega) (by omega) (hk ex _ _ (by omega) hC2 hR2 (hB.same (pBs_oWeek A _)))
theorem law_c17 {nm : String} {b L : Nat} {xs : Nat → Int32} {ex : List dt_Shp} {σ : dt_Mem} {A : dS} {i : Nat} (hL : L ≤ 384) (hi : i + 6 ≤ L) (hC : cInv ex σ A) (hR : rInv σ A) (hB : pB A (17 * i)) (hx : ex.length ≤ 2 * i) (hk : lawK nm b L xs ex i) : dt_V (mLaw nm) room_1 (dt_LC b L xs) (100 + 2 * i) (20000 + 21 * i) 797 [some (dt_S 200), some (dt_R 0), some (dt_R 40), some (dt_I (i : Int))] [] (dt_SH ++ ex) σ := by
  have hO : aOk A 10000 := ⟨⟨(hC.ok hB).1.1, (hC.ok hB).1.2.1, Nat.le_trans hB.1 (by omega)⟩, ⟨(hC.ok hB).2.1.1, (hC.ok hB).2.1.2.1, Nat.le_trans hB.2.1 (by omega)⟩, ⟨(hC.ok hB).2.2.1.1, (hC.ok hB).2.2.1.2.1, Nat.le_trans hB.2.2.1 (by omega)⟩, hB.2.2.2⟩
  refine dt_aloadn dL_law_797 rfl rfl ?_
  refine dt_aloadSn dL_law_798 rfl rfl ?_
  refine dt_iloadn dL_law_799 rfl rfl ?_
  refine dt_iconst dL_law_800 ?_
  refine dt_iadd dL_law_801 ?_
  refine dt_lsld dL_law_802 (by omega) (by omega) hL ?_
  refine dt_xV dL_law_803 pc_L_90 rfl (s_X11_letIn hC (dt_t32 _)) rfl rfl ⟨by decide, by decide⟩ rfl rfl (Nat.le_of_ble_eq_true rfl) ⟨by show _ ≤ 600000; omega, by show _ ≤ 7302250; omega⟩ ?_
  intro v1 sh1 σ1 hq1
  obtain ⟨rfl, hs1, hC1, hf1⟩ := hq1
  obtain rfl := hs1.symm
  have hR1 := hR.kept hf1
  refine dt_aloadn dL_law_806 rfl rfl ?_
  refine dt_aloadSn dL_law_807 rfl rfl ?_
  refine dt_iloadn dL_law_808 rfl rfl ?_
  refine dt_iconst dL_law_809 ?_
  refine dt_iadd dL_law_810 ?_
  refine dt_lsld dL_law_811 (by omega) (by omega) hL ?_
  refine dt_xV dL_law_812 pc_L_93 rfl (s_X12_letIn hR1 (dt_t32 _) (hC.ok hB).1.1) rfl rfl ⟨by decide, by decide⟩ rfl rfl (Nat.le_of_ble_eq_true rfl) ⟨by show _ ≤ 600000; omega, by show _ ≤ 7302250; omega⟩ ?_
  intro v2 sh2 σ2 hq2
  obtain ⟨rfl, hs2, hR2, hf2⟩ := hq2
  obtain rfl := hs2.symm
  have hC2 := hC1.kept hf2
  refine dt_lsame (tgt := 1097) dL_law_815 (by decide) ?_
  refine dt_wk (by omega) (by omega) (hk ex _ _ (by omega) hC2 hR2 (hB.same (pBs_oLetIn A _)))
theorem law_c18 {nm : String} {b L : Nat} {xs : Nat → Int32} {ex : List dt_Shp} {σ : dt_Mem} {A : dS} {i : Nat} (hL : L ≤ 384) (hi : i + 6 ≤ L) (hC : cInv ex σ A) (hR : rInv σ A) (hB : pB A (17 * i)) (hx : ex.length ≤ 2 * i) (hk : lawK nm b L xs ex i) : dt_V (mLaw nm) room_1 (dt_LC b L xs) (100 + 2 * i) (20000 + 21 * i) 820 [some (dt_S 200), some (dt_R 0), some (dt_R 40), some (dt_I (i : Int))] [] (dt_SH ++ ex) σ := by
  have hO : aOk A 10000 := ⟨⟨(hC.ok hB).1.1, (hC.ok hB).1.2.1, Nat.le_trans hB.1 (by omega)⟩, ⟨(hC.ok hB).2.1.1, (hC.ok hB).2.1.2.1, Nat.le_trans hB.2.1 (by omega)⟩, ⟨(hC.ok hB).2.2.1.1, (hC.ok hB).2.2.1.2.1, Nat.le_trans hB.2.2.1 (by omega)⟩, hB.2.2.2⟩
  refine dt_aloadn dL_law_820 rfl rfl ?_
  refine dt_aloadSn dL_law_821 rfl rfl ?_
  refine dt_iloadn dL_law_822 rfl rfl ?_
  refine dt_iconst dL_law_823 ?_
  refine dt_iadd dL_law_824 ?_
  refine dt_lsld dL_law_825 (by omega) (by omega) hL ?_
  refine dt_aloadSn dL_law_826 rfl rfl ?_
  refine dt_iloadn dL_law_827 rfl rfl ?_
  refine dt_iconst dL_law_828 ?_
  refine dt_iadd dL_law_829 ?_
  refine dt_lsld dL_law_830 (by omega) (by omega) hL ?_
  refine dt_aloadSn dL_law_831 rfl rfl ?_
  refine dt_iloadn dL_law_832 rfl rfl ?_
  refine dt_iconst dL_law_833 ?_
  refine dt_iadd dL_law_834 ?_
  refine dt_lsld dL_law_835 (by omega) (by omega) hL ?_
  refine dt_aloadSn dL_law_836 rfl rfl ?_
  refine dt_iloadn dL_law_837 rfl rfl ?_
  refine dt_iconst dL_law_838 ?_
  refine dt_iadd dL_law_839 ?_
  refine dt_lsld dL_law_840 (by omega) (by omega) hL ?_
  refine dt_xV dL_law_841 pc_L_94 rfl (s_X11_dated hC (dt_t32 _) (dt_t32 _) (dt_t32 _) (dt_t32 _)) rfl rfl ⟨by decide, by decide⟩ rfl rfl (Nat.le_of_ble_eq_true rfl) ⟨by show _ ≤ 600000; omega, by show _ ≤ 7302250; omega⟩ ?_
  intro v1 sh1 σ1 hq1
  obtain ⟨rfl, hs1, hC1, hf1⟩ := hq1
  obtain rfl := hs1.symm
  have hR1 := hR.kept hf1
  refine dt_aloadn dL_law_844 rfl rfl ?_
  refine dt_aloadSn dL_law_845 rfl rfl ?_
  refine dt_iloadn dL_law_846 rfl rfl ?_
  refine dt_iconst dL_law_847 ?_
  refine dt_iadd dL_law_848 ?_
  refine dt_lsld dL_law_849 (by omega) (by omega) hL ?_
  refine dt_aloadSn dL_law_850 rfl rfl ?_
  refine dt_iloadn dL_law_851 rfl rfl ?_
  refine dt_iconst dL_law_852 ?_
  refine dt_iadd dL_law_853 ?_
  refine dt_lsld dL_law_854 (by omega) (by omega) hL ?_
  refine dt_aloadSn dL_law_855 rfl rfl ?_
  refine dt_iloadn dL_law_856 rfl rfl ?_
  refine dt_iconst dL_law_857 ?_
  refine dt_iadd dL_law_858 ?_
  refine dt_lsld dL_law_859 (by omega) (by omega) hL ?_
  refine dt_aloadSn dL_law_860 rfl rfl ?_
  refine dt_iloadn dL_law_861 rfl rfl ?_
  refine dt_iconst dL_law_862 ?_
  refine dt_iadd dL_law_863 ?_
  refine dt_lsld dL_law_864 (by omega) (by omega) hL ?_
  refine dt_xV dL_law_865 pc_L_97 rfl (s_X12_dated hR1 (dt_t32 _) (dt_t32 _) (dt_t32 _) (dt_t32 _) (hC.ok hB).1.1) rfl rfl ⟨by decide, by decide⟩ rfl rfl (Nat.le_of_ble_eq_true rfl) ⟨by show _ ≤ 600000; omega, by show _ ≤ 7302250; omega⟩ ?_
  intro v2 sh2 σ2 hq2
  obtain ⟨rfl, hs2, hR2, hf2⟩ := hq2
  obtain rfl := hs2.symm
  have hC2 := hC1.kept hf2
  refine dt_lsame (tgt := 1097) dL_law_868 (by decide) ?_
  refine dt_wk (by omega) (by omega) (hk ex _ _ (by omega) hC2 hR2 (hB.same (pBs_oDated A _ _ _ _)))
theorem law_c19 {nm : String} {b L : Nat} {xs : Nat → Int32} {ex : List dt_Shp} {σ : dt_Mem} {A : dS} {i : Nat} (hL : L ≤ 384) (hi : i + 6 ≤ L) (hC : cInv ex σ A) (hR : rInv σ A) (hB : pB A (17 * i)) (hx : ex.length ≤ 2 * i) (hk : lawK nm b L xs ex i) : dt_V (mLaw nm) room_1 (dt_LC b L xs) (100 + 2 * i) (20000 + 21 * i) 873 [some (dt_S 200), some (dt_R 0), some (dt_R 40), some (dt_I (i : Int))] [] (dt_SH ++ ex) σ := by
  have hO : aOk A 10000 := ⟨⟨(hC.ok hB).1.1, (hC.ok hB).1.2.1, Nat.le_trans hB.1 (by omega)⟩, ⟨(hC.ok hB).2.1.1, (hC.ok hB).2.1.2.1, Nat.le_trans hB.2.1 (by omega)⟩, ⟨(hC.ok hB).2.2.1.1, (hC.ok hB).2.2.1.2.1, Nat.le_trans hB.2.2.1 (by omega)⟩, hB.2.2.2⟩
  refine dt_aloadn dL_law_873 rfl rfl ?_
  refine dt_aloadSn dL_law_874 rfl rfl ?_
  refine dt_iloadn dL_law_875 rfl rfl ?_
  refine dt_iconst dL_law_876 ?_
  refine dt_iadd dL_law_877 ?_
  refine dt_lsld dL_law_878 (by omega) (by omega) hL ?_
  refine dt_xV dL_law_879 pc_L_98 rfl (s_X11_image hC (dt_t32 _)) rfl rfl ⟨by decide, by decide⟩ rfl rfl (Nat.le_of_ble_eq_true rfl) ⟨by show _ ≤ 600000; omega, by show _ ≤ 7302250; omega⟩ ?_
  intro v1 sh1 σ1 hq1
  obtain ⟨rfl, hs1, hC1, hf1⟩ := hq1
  obtain rfl := hs1.symm
  have hR1 := hR.kept hf1
  refine dt_aloadn dL_law_882 rfl rfl ?_
  refine dt_aloadSn dL_law_883 rfl rfl ?_
  refine dt_iloadn dL_law_884 rfl rfl ?_
  refine dt_iconst dL_law_885 ?_
  refine dt_iadd dL_law_886 ?_
  refine dt_lsld dL_law_887 (by omega) (by omega) hL ?_
  refine dt_xV dL_law_888 pc_L_101 rfl (s_X12_image hR1 (dt_t32 _) hO) rfl rfl ⟨by decide, by decide⟩ rfl rfl (Nat.le_of_ble_eq_true rfl) ⟨by show _ ≤ 600000; omega, by show _ ≤ 7302250; omega⟩ ?_
  intro v2 sh2 σ2 hq2
  obtain ⟨rfl, hs2, hR2, hf2⟩ := hq2
  obtain rfl := hs2.symm
  have hC2 := hC1.kept hf2
  refine dt_lsame (tgt := 1097) dL_law_891 (by decide) ?_
  refine dt_wk (by omega) (by omega) (hk ex _ _ (by omega) hC2 hR2 (pB_image hB _))
theorem law_c20 {nm : String} {b L : Nat} {xs : Nat → Int32} {ex : List dt_Shp} {σ : dt_Mem} {A : dS} {i : Nat} (hL : L ≤ 384) (hi : i + 6 ≤ L) (hC : cInv ex σ A) (hR : rInv σ A) (hB : pB A (17 * i)) (hx : ex.length ≤ 2 * i) (hk : lawK nm b L xs ex i) : dt_V (mLaw nm) room_1 (dt_LC b L xs) (100 + 2 * i) (20000 + 21 * i) 896 [some (dt_S 200), some (dt_R 0), some (dt_R 40), some (dt_I (i : Int))] [] (dt_SH ++ ex) σ := by
  have hO : aOk A 10000 := ⟨⟨(hC.ok hB).1.1, (hC.ok hB).1.2.1, Nat.le_trans hB.1 (by omega)⟩, ⟨(hC.ok hB).2.1.1, (hC.ok hB).2.1.2.1, Nat.le_trans hB.2.1 (by omega)⟩, ⟨(hC.ok hB).2.2.1.1, (hC.ok hB).2.2.1.2.1, Nat.le_trans hB.2.2.1 (by omega)⟩, hB.2.2.2⟩
  refine dt_aloadn dL_law_896 rfl rfl ?_
  refine dt_aloadSn dL_law_897 rfl rfl ?_
  refine dt_iloadn dL_law_898 rfl rfl ?_
  refine dt_iconst dL_law_899 ?_
  refine dt_iadd dL_law_900 ?_
  refine dt_lsld dL_law_901 (by omega) (by omega) hL ?_
  refine dt_xV dL_law_902 pc_L_102 rfl (s_X11_restore hC (dt_t32 _)) rfl rfl ⟨by decide, by decide⟩ rfl rfl (Nat.le_of_ble_eq_true rfl) ⟨by show _ ≤ 600000; omega, by show _ ≤ 7302250; omega⟩ ?_
  intro v1 sh1 σ1 hq1
  obtain ⟨rfl, hs1, hC1, hf1⟩ := hq1
  obtain rfl := hs1.symm
  have hR1 := hR.kept hf1
  refine dt_aloadn dL_law_905 rfl rfl ?_
  refine dt_aloadSn dL_law_906 rfl rfl ?_
  refine dt_iloadn dL_law_907 rfl rfl ?_
  refine dt_iconst dL_law_908 ?_
  refine dt_iadd dL_law_909 ?_
  refine dt_lsld dL_law_910 (by omega) (by omega) hL ?_
  refine dt_xV dL_law_911 pc_L_105 rfl (s_X12_restore hR1 (dt_t32 _) hO) rfl rfl ⟨by decide, by decide⟩ rfl rfl (Nat.le_of_ble_eq_true rfl) ⟨by show _ ≤ 600000; omega, by show _ ≤ 7302250; omega⟩ ?_
  intro v2 sh2 σ2 hq2
  obtain ⟨rfl, hs2, hR2, hf2⟩ := hq2
  obtain rfl := hs2.symm
  have hC2 := hC1.kept hf2
  refine dt_lsame (tgt := 1097) dL_law_914 (by decide) ?_
  refine dt_wk (by omega) (by omega) (hk ex _ _ (by omega) hC2 hR2 (pB_restore hB _))
theorem law_c21 {nm : String} {b L : Nat} {xs : Nat → Int32} {ex : List dt_Shp} {σ : dt_Mem} {A : dS} {i : Nat} (hL : L ≤ 384) (hi : i + 6 ≤ L) (hC : cInv ex σ A) (hR : rInv σ A) (hB : pB A (17 * i)) (hx : ex.length ≤ 2 * i) (hk : lawK nm b L xs ex i) : dt_V (mLaw nm) room_1 (dt_LC b L xs) (100 + 2 * i) (20000 + 21 * i) 919 [some (dt_S 200), some (dt_R 0), some (dt_R 40), some (dt_I (i : Int))] [] (dt_SH ++ ex) σ := by
  have hO : aOk A 10000 := ⟨⟨(hC.ok hB).1.1, (hC.ok hB).1.2.1, Nat.le_trans hB.1 (by omega)⟩, ⟨(hC.ok hB).2.1.1, (hC.ok hB).2.1.2.1, Nat.le_trans hB.2.1 (by omega)⟩, ⟨(hC.ok hB).2.2.1.1, (hC.ok hB).2.2.1.2.1, Nat.le_trans hB.2.2.1 (by omega)⟩, hB.2.2.2⟩
  refine dt_aloadn dL_law_919 rfl rfl ?_
  refine dt_aloadSn dL_law_920 rfl rfl ?_
  refine dt_iloadn dL_law_921 rfl rfl ?_
  refine dt_iconst dL_law_922 ?_
  refine dt_iadd dL_law_923 ?_
  refine dt_lsld dL_law_924 (by omega) (by omega) hL ?_
  refine dt_aloadSn dL_law_925 rfl rfl ?_
  refine dt_iloadn dL_law_926 rfl rfl ?_
  refine dt_iconst dL_law_927 ?_
  refine dt_iadd dL_law_928 ?_
  refine dt_lsld dL_law_929 (by omega) (by omega) hL ?_
  refine dt_xV dL_law_930 pc_L_106 rfl (s_X11_kind hC (dt_t32 _) (dt_t32 _)) rfl rfl ⟨by decide, by decide⟩ rfl rfl (Nat.le_of_ble_eq_true rfl) ⟨by show _ ≤ 600000; omega, by show _ ≤ 7302250; omega⟩ ?_
  intro v1 sh1 σ1 hq1
  obtain ⟨rfl, hs1, hC1, hf1⟩ := hq1
  obtain rfl := hs1.symm
  have hR1 := hR.kept hf1
  refine dt_aloadn dL_law_933 rfl rfl ?_
  refine dt_aloadSn dL_law_934 rfl rfl ?_
  refine dt_iloadn dL_law_935 rfl rfl ?_
  refine dt_iconst dL_law_936 ?_
  refine dt_iadd dL_law_937 ?_
  refine dt_lsld dL_law_938 (by omega) (by omega) hL ?_
  refine dt_aloadSn dL_law_939 rfl rfl ?_
  refine dt_iloadn dL_law_940 rfl rfl ?_
  refine dt_iconst dL_law_941 ?_
  refine dt_iadd dL_law_942 ?_
  refine dt_lsld dL_law_943 (by omega) (by omega) hL ?_
  refine dt_xV dL_law_944 pc_L_109 rfl (s_X12_kind hR1 (dt_t32 _) (dt_t32 _) (hC.ok hB).1.1) rfl rfl ⟨by decide, by decide⟩ rfl rfl (Nat.le_of_ble_eq_true rfl) ⟨by show _ ≤ 600000; omega, by show _ ≤ 7302250; omega⟩ ?_
  intro v2 sh2 σ2 hq2
  obtain ⟨rfl, hs2, hR2, hf2⟩ := hq2
  obtain rfl := hs2.symm
  have hC2 := hC1.kept hf2
  refine dt_lsame (tgt := 1097) dL_law_947 (by decide) ?_
  refine dt_wk (by omega) (by omega) (hk ex _ _ (by omega) hC2 hR2 (hB.same (pBs_oKind A _ _)))
theorem law_c22 {nm : String} {b L : Nat} {xs : Nat → Int32} {ex : List dt_Shp} {σ : dt_Mem} {A : dS} {i : Nat} (hL : L ≤ 384) (hi : i + 6 ≤ L) (hC : cInv ex σ A) (hR : rInv σ A) (hB : pB A (17 * i)) (hx : ex.length ≤ 2 * i) (hk : lawK nm b L xs ex i) : dt_V (mLaw nm) room_1 (dt_LC b L xs) (100 + 2 * i) (20000 + 21 * i) 952 [some (dt_S 200), some (dt_R 0), some (dt_R 40), some (dt_I (i : Int))] [] (dt_SH ++ ex) σ := by
  have hO : aOk A 10000 := ⟨⟨(hC.ok hB).1.1, (hC.ok hB).1.2.1, Nat.le_trans hB.1 (by omega)⟩, ⟨(hC.ok hB).2.1.1, (hC.ok hB).2.1.2.1, Nat.le_trans hB.2.1 (by omega)⟩, ⟨(hC.ok hB).2.2.1.1, (hC.ok hB).2.2.1.2.1, Nat.le_trans hB.2.2.1 (by omega)⟩, hB.2.2.2⟩
  refine dt_aloadn dL_law_952 rfl rfl ?_
  refine dt_aloadSn dL_law_953 rfl rfl ?_
  refine dt_iloadn dL_law_954 rfl rfl ?_
  refine dt_iconst dL_law_955 ?_
  refine dt_iadd dL_law_956 ?_
  refine dt_lsld dL_law_957 (by omega) (by omega) hL ?_
  refine dt_aloadSn dL_law_958 rfl rfl ?_
  refine dt_iloadn dL_law_959 rfl rfl ?_
  refine dt_iconst dL_law_960 ?_
  refine dt_iadd dL_law_961 ?_
  refine dt_lsld dL_law_962 (by omega) (by omega) hL ?_
  refine dt_aloadSn dL_law_963 rfl rfl ?_
  refine dt_iloadn dL_law_964 rfl rfl ?_
  refine dt_iconst dL_law_965 ?_
  refine dt_iadd dL_law_966 ?_
  refine dt_lsld dL_law_967 (by omega) (by omega) hL ?_
  refine dt_xV dL_law_968 pc_L_110 rfl (s_X11_as hC (dt_t32 _) (dt_t32 _) (dt_t32 _) (by omega)) rfl rfl ⟨by decide, by decide⟩ rfl rfl (Nat.le_of_ble_eq_true rfl) ⟨by show _ ≤ 600000; omega, by show _ ≤ 7302250; omega⟩ ?_
  intro v1 sh1 σ1 hq1
  obtain ⟨e2, rfl, hs1, he2, hC1, hf1⟩ := hq1
  obtain rfl := hs1.symm
  have hR1 := hR.kept hf1
  refine dt_aloadn dL_law_971 rfl rfl ?_
  refine dt_aloadSn dL_law_972 rfl rfl ?_
  refine dt_iloadn dL_law_973 rfl rfl ?_
  refine dt_iconst dL_law_974 ?_
  refine dt_iadd dL_law_975 ?_
  refine dt_lsld dL_law_976 (by omega) (by omega) hL ?_
  refine dt_aloadSn dL_law_977 rfl rfl ?_
  refine dt_iloadn dL_law_978 rfl rfl ?_
  refine dt_iconst dL_law_979 ?_
  refine dt_iadd dL_law_980 ?_
  refine dt_lsld dL_law_981 (by omega) (by omega) hL ?_
  refine dt_aloadSn dL_law_982 rfl rfl ?_
  refine dt_iloadn dL_law_983 rfl rfl ?_
  refine dt_iconst dL_law_984 ?_
  refine dt_iadd dL_law_985 ?_
  refine dt_lsld dL_law_986 (by omega) (by omega) hL ?_
  refine dt_xV dL_law_987 pc_L_113 rfl (s_X12_as hR1 (dt_t32 _) (dt_t32 _) (dt_t32 _) (hC.ok hB).1.1) rfl rfl ⟨by decide, by decide⟩ rfl rfl (Nat.le_of_ble_eq_true rfl) ⟨by show _ ≤ 600000; omega, by show _ ≤ 7302250; omega⟩ ?_
  intro v2 sh2 σ2 hq2
  obtain ⟨rfl, hs2, hR2, hf2⟩ := hq2
  obtain rfl := hs2.symm
  have hC2 := hC1.kept hf2
  refine dt_lsame (tgt := 1097) dL_law_990 (by decide) ?_
  refine dt_wk (by omega) (by omega) (hk (ex ++ e2) _ _ (by rw [List.length_append]; omega) hC2 hR2 (hB.same (pBs_oAs A _ _ _)))
theorem law_c23 {nm : String} {b L : Nat} {xs : Nat → Int32} {ex : List dt_Shp} {σ : dt_Mem} {A : dS} {i : Nat} (hL : L ≤ 384) (hi : i + 6 ≤ L) (hC : cInv ex σ A) (hR : rInv σ A) (hB : pB A (17 * i)) (hx : ex.length ≤ 2 * i) (hk : lawK nm b L xs ex i) : dt_V (mLaw nm) room_1 (dt_LC b L xs) (100 + 2 * i) (20000 + 21 * i) 995 [some (dt_S 200), some (dt_R 0), some (dt_R 40), some (dt_I (i : Int))] [] (dt_SH ++ ex) σ := by
  have hO : aOk A 10000 := ⟨⟨(hC.ok hB).1.1, (hC.ok hB).1.2.1, Nat.le_trans hB.1 (by omega)⟩, ⟨(hC.ok hB).2.1.1, (hC.ok hB).2.1.2.1, Nat.le_trans hB.2.1 (by omega)⟩, ⟨(hC.ok hB).2.2.1.1, (hC.ok hB).2.2.1.2.1, Nat.le_trans hB.2.2.1 (by omega)⟩, hB.2.2.2⟩
  refine dt_aloadn dL_law_995 rfl rfl ?_
  refine dt_aloadSn dL_law_996 rfl rfl ?_
  refine dt_iloadn dL_law_997 rfl rfl ?_
  refine dt_iconst dL_law_998 ?_
  refine dt_iadd dL_law_999 ?_
  refine dt_lsld dL_law_1000 (by omega) (by omega) hL ?_
  refine dt_aloadSn dL_law_1001 rfl rfl ?_
  refine dt_iloadn dL_law_1002 rfl rfl ?_
  refine dt_iconst dL_law_1003 ?_
  refine dt_iadd dL_law_1004 ?_
  refine dt_lsld dL_law_1005 (by omega) (by omega) hL ?_
  refine dt_aloadSn dL_law_1006 rfl rfl ?_
  refine dt_iloadn dL_law_1007 rfl rfl ?_
  refine dt_iconst dL_law_1008 ?_
  refine dt_iadd dL_law_1009 ?_
  refine dt_lsld dL_law_1010 (by omega) (by omega) hL ?_
  refine dt_xV dL_law_1011 pc_L_114 rfl (s_X11_ask hC (dt_t32 _) (dt_t32 _) (dt_t32 _) (by omega)) rfl rfl ⟨by decide, by decide⟩ rfl rfl (Nat.le_of_ble_eq_true rfl) ⟨by show _ ≤ 600000; omega, by show _ ≤ 7302250; omega⟩ ?_
  intro v1 sh1 σ1 hq1
  obtain ⟨e2, rfl, hs1, he2, hC1, hf1⟩ := hq1
  obtain rfl := hs1.symm
  have hR1 := hR.kept hf1
  refine dt_aloadn dL_law_1014 rfl rfl ?_
  refine dt_aloadSn dL_law_1015 rfl rfl ?_
  refine dt_iloadn dL_law_1016 rfl rfl ?_
  refine dt_iconst dL_law_1017 ?_
  refine dt_iadd dL_law_1018 ?_
  refine dt_lsld dL_law_1019 (by omega) (by omega) hL ?_
  refine dt_aloadSn dL_law_1020 rfl rfl ?_
  refine dt_iloadn dL_law_1021 rfl rfl ?_
  refine dt_iconst dL_law_1022 ?_
  refine dt_iadd dL_law_1023 ?_
  refine dt_lsld dL_law_1024 (by omega) (by omega) hL ?_
  refine dt_aloadSn dL_law_1025 rfl rfl ?_
  refine dt_iloadn dL_law_1026 rfl rfl ?_
  refine dt_iconst dL_law_1027 ?_
  refine dt_iadd dL_law_1028 ?_
  refine dt_lsld dL_law_1029 (by omega) (by omega) hL ?_
  refine dt_xV dL_law_1030 pc_L_117 rfl (s_X12_ask hR1 (dt_t32 _) (dt_t32 _) (dt_t32 _) (hC.ok hB).1.1) rfl rfl ⟨by decide, by decide⟩ rfl rfl (Nat.le_of_ble_eq_true rfl) ⟨by show _ ≤ 600000; omega, by show _ ≤ 7302250; omega⟩ ?_
  intro v2 sh2 σ2 hq2
  obtain ⟨rfl, hs2, hR2, hf2⟩ := hq2
  obtain rfl := hs2.symm
  have hC2 := hC1.kept hf2
  refine dt_lsame (tgt := 1097) dL_law_1033 (by decide) ?_
  refine dt_wk (by omega) (by omega) (hk (ex ++ e2) _ _ (by rw [List.length_append]; omega) hC2 hR2 (hB.same (pBs_oAsk A _ _ _)))
theorem law_c24 {nm : String} {b L : Nat} {xs : Nat → Int32} {ex : List dt_Shp} {σ : dt_Mem} {A : dS} {i : Nat} (hL : L ≤ 384) (hi : i + 6 ≤ L) (hC : cInv ex σ A) (hR : rInv σ A) (hB : pB A (17 * i)) (hx : ex.length ≤ 2 * i) (hk : lawK nm b L xs ex i) : dt_V (mLaw nm) room_1 (dt_LC b L xs) (100 + 2 * i) (20000 + 21 * i) 1038 [some (dt_S 200), some (dt_R 0), some (dt_R 40), some (dt_I (i : Int))] [] (dt_SH ++ ex) σ := by
  have hO : aOk A 10000 := ⟨⟨(hC.ok hB).1.1, (hC.ok hB).1.2.1, Nat.le_trans hB.1 (by omega)⟩, ⟨(hC.ok hB).2.1.1, (hC.ok hB).2.1.2.1, Nat.le_trans hB.2.1 (by omega)⟩, ⟨(hC.ok hB).2.2.1.1, (hC.ok hB).2.2.1.2.1, Nat.le_trans hB.2.2.1 (by omega)⟩, hB.2.2.2⟩
  refine dt_aloadn dL_law_1038 rfl rfl ?_
  refine dt_aloadSn dL_law_1039 rfl rfl ?_
  refine dt_iloadn dL_law_1040 rfl rfl ?_
  refine dt_iconst dL_law_1041 ?_
  refine dt_iadd dL_law_1042 ?_
  refine dt_lsld dL_law_1043 (by omega) (by omega) hL ?_
  refine dt_xV dL_law_1044 pc_L_118 rfl (s_X11_trace hC (dt_t32 _)) rfl rfl ⟨by decide, by decide⟩ rfl rfl (Nat.le_of_ble_eq_true rfl) ⟨by show _ ≤ 600000; omega, by show _ ≤ 7302250; omega⟩ ?_
  intro v1 sh1 σ1 hq1
  obtain ⟨rfl, hs1, hC1, hf1⟩ := hq1
  obtain rfl := hs1.symm
  have hR1 := hR.kept hf1
  refine dt_aloadn dL_law_1047 rfl rfl ?_
  refine dt_aloadSn dL_law_1048 rfl rfl ?_
  refine dt_iloadn dL_law_1049 rfl rfl ?_
  refine dt_iconst dL_law_1050 ?_
  refine dt_iadd dL_law_1051 ?_
  refine dt_lsld dL_law_1052 (by omega) (by omega) hL ?_
  refine dt_xV dL_law_1053 pc_L_121 rfl (s_X12_trace hR1 (dt_t32 _) (hC.ok hB).1.1) rfl rfl ⟨by decide, by decide⟩ rfl rfl (Nat.le_of_ble_eq_true rfl) ⟨by show _ ≤ 600000; omega, by show _ ≤ 7302250; omega⟩ ?_
  intro v2 sh2 σ2 hq2
  obtain ⟨rfl, hs2, hR2, hf2⟩ := hq2
  obtain rfl := hs2.symm
  have hC2 := hC1.kept hf2
  refine dt_lsame (tgt := 1097) dL_law_1056 (by decide) ?_
  refine dt_wk (by omega) (by omega) (hk ex _ _ (by omega) hC2 hR2 (hB.same (pBs_oTrace A _)))
theorem law_c25 {nm : String} {b L : Nat} {xs : Nat → Int32} {ex : List dt_Shp} {σ : dt_Mem} {A : dS} {i : Nat} (hL : L ≤ 384) (hi : i + 6 ≤ L) (hC : cInv ex σ A) (hR : rInv σ A) (hB : pB A (17 * i)) (hx : ex.length ≤ 2 * i) (hk : lawK nm b L xs ex i) : dt_V (mLaw nm) room_1 (dt_LC b L xs) (100 + 2 * i) (20000 + 21 * i) 1061 [some (dt_S 200), some (dt_R 0), some (dt_R 40), some (dt_I (i : Int))] [] (dt_SH ++ ex) σ := by
  have hO : aOk A 10000 := ⟨⟨(hC.ok hB).1.1, (hC.ok hB).1.2.1, Nat.le_trans hB.1 (by omega)⟩, ⟨(hC.ok hB).2.1.1, (hC.ok hB).2.1.2.1, Nat.le_trans hB.2.1 (by omega)⟩, ⟨(hC.ok hB).2.2.1.1, (hC.ok hB).2.2.1.2.1, Nat.le_trans hB.2.2.1 (by omega)⟩, hB.2.2.2⟩
  refine dt_aloadn dL_law_1061 rfl rfl ?_
  refine dt_aloadSn dL_law_1062 rfl rfl ?_
  refine dt_iloadn dL_law_1063 rfl rfl ?_
  refine dt_iconst dL_law_1064 ?_
  refine dt_iadd dL_law_1065 ?_
  refine dt_lsld dL_law_1066 (by omega) (by omega) hL ?_
  refine dt_xV dL_law_1067 pc_L_122 rfl (s_X11_count hC (dt_t32 _)) rfl rfl ⟨by decide, by decide⟩ rfl rfl (Nat.le_of_ble_eq_true rfl) ⟨by show _ ≤ 600000; omega, by show _ ≤ 7302250; omega⟩ ?_
  intro v1 sh1 σ1 hq1
  obtain ⟨rfl, hs1, hC1, hf1⟩ := hq1
  obtain rfl := hs1.symm
  have hR1 := hR.kept hf1
  refine dt_aloadn dL_law_1070 rfl rfl ?_
  refine dt_aloadSn dL_law_1071 rfl rfl ?_
  refine dt_iloadn dL_law_1072 rfl rfl ?_
  refine dt_iconst dL_law_1073 ?_
  refine dt_iadd dL_law_1074 ?_
  refine dt_lsld dL_law_1075 (by omega) (by omega) hL ?_
  refine dt_xV dL_law_1076 pc_L_125 rfl (s_X12_count hR1 (dt_t32 _) hO) rfl rfl ⟨by decide, by decide⟩ rfl rfl (Nat.le_of_ble_eq_true rfl) ⟨by show _ ≤ 600000; omega, by show _ ≤ 7302250; omega⟩ ?_
  intro v2 sh2 σ2 hq2
  obtain ⟨rfl, hs2, hR2, hf2⟩ := hq2
  obtain rfl := hs2.symm
  have hC2 := hC1.kept hf2
  refine dt_lsame (tgt := 1097) dL_law_1079 (by decide) ?_
  refine dt_wk (by omega) (by omega) (hk ex _ _ (by omega) hC2 hR2 (hB.same (pBs_oCount A _)))
theorem law_c26 {nm : String} {b L : Nat} {xs : Nat → Int32} {ex : List dt_Shp} {σ : dt_Mem} {A : dS} {i : Nat} (hL : L ≤ 384) (hi : i + 6 ≤ L) (hC : cInv ex σ A) (hR : rInv σ A) (hB : pB A (17 * i)) (hx : ex.length ≤ 2 * i) (hk : lawK nm b L xs ex i) : dt_V (mLaw nm) room_1 (dt_LC b L xs) (100 + 2 * i) (20000 + 21 * i) 1084 [some (dt_S 200), some (dt_R 0), some (dt_R 40), some (dt_I (i : Int))] [] (dt_SH ++ ex) σ := by
  have hO : aOk A 10000 := ⟨⟨(hC.ok hB).1.1, (hC.ok hB).1.2.1, Nat.le_trans hB.1 (by omega)⟩, ⟨(hC.ok hB).2.1.1, (hC.ok hB).2.1.2.1, Nat.le_trans hB.2.1 (by omega)⟩, ⟨(hC.ok hB).2.2.1.1, (hC.ok hB).2.2.1.2.1, Nat.le_trans hB.2.2.1 (by omega)⟩, hB.2.2.2⟩
  refine dt_aloadn dL_law_1084 rfl rfl ?_
  refine dt_xV dL_law_1085 pc_L_126 rfl (s_X11_status) rfl rfl ⟨by decide, by decide⟩ rfl rfl (Nat.le_of_ble_eq_true rfl) ⟨by show _ ≤ 600000; omega, by show _ ≤ 7302250; omega⟩ ?_
  intro v1 sh1 σ1 hq1
  obtain ⟨rfl, hs1, hm1⟩ := hq1
  obtain rfl := hs1.symm
  obtain rfl := hm1.symm
  have g1 : σ 0 10 = sS A := hC.2.2.2.2.2.2.1
  rw [g1]
  have hR1 := hR
  have hC1 := hC
  refine dt_aloadn dL_law_1088 rfl rfl ?_
  refine dt_xV dL_law_1089 pc_L_129 rfl (s_X12_status hR1 ) rfl rfl ⟨by decide, by decide⟩ rfl rfl (Nat.le_of_ble_eq_true rfl) ⟨by show _ ≤ 600000; omega, by show _ ≤ 7302250; omega⟩ ?_
  intro v2 sh2 σ2 hq2
  obtain ⟨rfl, hs2, hR2, hf2⟩ := hq2
  obtain rfl := hs2.symm
  have hC2 := hC1.kept hf2
  refine dt_lsame (tgt := 1097) dL_law_1092 (by decide) ?_
  refine dt_wk (by omega) (by omega) (hk ex _ _ (by omega) hC2 hR2 (hB.mono (by omega)))
theorem law_loop {nm : String} {b L : Nat} {xs : Nat → Int32} (hL : L ≤ 384) : ∀ (fu i : Nat) (ex : List dt_Shp) (σ : dt_Mem) (A : dS), 400 < i + fu → i ≤ 390 → ex.length ≤ 2 * i → cInv ex σ A → rInv σ A → pB A (17 * i) → dt_V (mLaw nm) room_1 (dt_LC b L xs) (100 + 2 * i) (20000 + 21 * i) 18 [some (dt_S 200), some (dt_R 0), some (dt_R 40), some (dt_I (i : Int))] [] (dt_SH ++ ex) σ := by
  intro fu
  induction fu with
  | zero =>
    intro i ex σ A h1 h2
    exfalso
    omega
  | succ fu ih =>
    intro i ex σ A hf hi6 hx hC hR hB
    refine dt_iloadn dL_law_18 rfl rfl ?_
    refine dt_aloadSn dL_law_19 rfl rfl ?_
    refine dt_lslen dL_law_20 ?_
    refine dt_bipush dL_law_21 (by decide) ?_
    refine dt_isub dL_law_23 ?_
    refine dt_cm_gt (tgt := 1103) dL_law_24 (by decide) ⟨by omega, by omega⟩ ⟨by omega, by omega⟩ (fun c1 => ?_) (fun c1 => ?_)
    · refine dt_iconst dL_law_1103 ?_
      exact dt_lend dL_law_1104 (by omega) (by omega)
    · have hi : i + 6 ≤ L := by omega
      have hk : lawK nm b L xs ex i := by
        intro ex' σ' A' g1 g2 g3 g4
        refine dt_iinc dL_law_1097 rfl (show 3 < 4 by decide) rfl ?_
        dsimp only [List.set]
        refine dt_goto (tgt := 18) dL_law_1100 (by decide) ?_
        rw [show (i : Int) + 6 = ((i + 6 : Nat) : Int) by omega]
        exact dt_wk (by omega) (by omega) (ih (i + 6) ex' σ' A' (by omega) (by omega) (by omega) g2 g3 (g4.mono (by omega)))
      refine dt_aloadSn dL_law_27 rfl rfl ?_
      refine dt_iloadn dL_law_28 rfl rfl ?_
      refine dt_lsld dL_law_29 (by omega) (by omega) hL ?_
      refine dt_bipush dL_law_30 (by decide) ?_
      refine dt_iand dL_law_32 ?_
      have hz : dt_in32 (dj_and (xs (i : Int).toNat).toInt 31) := ⟨Int32.le_toInt _, Int32.toInt_lt _⟩
      generalize dj_and (xs (i : Int).toNat).toInt 31 = z at hz ⊢
      by_cases s0 : z = 0
      · exact dt_tblI (off := 123) (tgt := 156) dL_law_33 hz (by omega) (by omega) (by rw [s0]; rfl) (by decide) (law_c0 hL hi hC hR hB hx hk)
      by_cases s1 : z = 1
      · exact dt_tblI (off := 166) (tgt := 199) dL_law_33 hz (by omega) (by omega) (by rw [s1]; rfl) (by decide) (law_c1 hL hi hC hR hB hx hk)
      by_cases s2 : z = 2
      · exact dt_tblI (off := 209) (tgt := 242) dL_law_33 hz (by omega) (by omega) (by rw [s2]; rfl) (by decide) (law_c2 hL hi hC hR hB hx hk)
      by_cases s3 : z = 3
      · exact dt_tblI (off := 272) (tgt := 305) dL_law_33 hz (by omega) (by omega) (by rw [s3]; rfl) (by decide) (law_c3 hL hi hC hR hB hx hk)
      by_cases s4 : z = 4
      · exact dt_tblI (off := 295) (tgt := 328) dL_law_33 hz (by omega) (by omega) (by rw [s4]; rfl) (by decide) (law_c4 hL hi hC hR hB hx hk)
      by_cases s5 : z = 5
      · exact dt_tblI (off := 358) (tgt := 391) dL_law_33 hz (by omega) (by omega) (by rw [s5]; rfl) (by decide) (law_c5 hL hi hC hR hB hx hk)
      by_cases s6 : z = 6
      · exact dt_tblI (off := 371) (tgt := 404) dL_law_33 hz (by omega) (by omega) (by rw [s6]; rfl) (by decide) (law_c6 hL hi hC hR hB hx hk)
      by_cases s7 : z = 7
      · exact dt_tblI (off := 384) (tgt := 417) dL_law_33 hz (by omega) (by omega) (by rw [s7]; rfl) (by decide) (law_c7 hL hi hC hR hB hx hk)
      by_cases s8 : z = 8
      · exact dt_tblI (off := 417) (tgt := 450) dL_law_33 hz (by omega) (by omega) (by rw [s8]; rfl) (by decide) (law_c8 hL hi hC hR hB hx hk)
      by_cases s9 : z = 9
      · exact dt_tblI (off := 460) (tgt := 493) dL_law_33 hz (by omega) (by omega) (by rw [s9]; rfl) (by decide) (law_c9 hL hi hC hR hB hx hk)
      by_cases s10 : z = 10
      · exact dt_tblI (off := 483) (tgt := 516) dL_law_33 hz (by omega) (by omega) (by rw [s10]; rfl) (by decide) (law_c10 hL hi hC hR hB hx hk)
      by_cases s11 : z = 11
      · exact dt_tblI (off := 506) (tgt := 539) dL_law_33 hz (by omega) (by omega) (by rw [s11]; rfl) (by decide) (law_c11 hL hi hC hR hB hx hk)
      by_cases s12 : z = 12
      · exact dt_tblI (off := 569) (tgt := 602) dL_law_33 hz (by omega) (by omega) (by rw [s12]; rfl) (by decide) (law_c12 hL hi hC hR hB hx hk)
      by_cases s13 : z = 13
      · exact dt_tblI (off := 622) (tgt := 655) dL_law_33 hz (by omega) (by omega) (by rw [s13]; rfl) (by decide) (law_c13 hL hi hC hR hB hx hk)
      by_cases s14 : z = 14
      · exact dt_tblI (off := 655) (tgt := 688) dL_law_33 hz (by omega) (by omega) (by rw [s14]; rfl) (by decide) (law_c14 hL hi hC hR hB hx hk)
      by_cases s15 : z = 15
      · exact dt_tblI (off := 698) (tgt := 731) dL_law_33 hz (by omega) (by omega) (by rw [s15]; rfl) (by decide) (law_c15 hL hi hC hR hB hx hk)
      by_cases s16 : z = 16
      · exact dt_tblI (off := 741) (tgt := 774) dL_law_33 hz (by omega) (by omega) (by rw [s16]; rfl) (by decide) (law_c16 hL hi hC hR hB hx hk)
      by_cases s17 : z = 17
      · exact dt_tblI (off := 764) (tgt := 797) dL_law_33 hz (by omega) (by omega) (by rw [s17]; rfl) (by decide) (law_c17 hL hi hC hR hB hx hk)
      by_cases s18 : z = 18
      · exact dt_tblI (off := 787) (tgt := 820) dL_law_33 hz (by omega) (by omega) (by rw [s18]; rfl) (by decide) (law_c18 hL hi hC hR hB hx hk)
      by_cases s19 : z = 19
      · exact dt_tblI (off := 840) (tgt := 873) dL_law_33 hz (by omega) (by omega) (by rw [s19]; rfl) (by decide) (law_c19 hL hi hC hR hB hx hk)
      by_cases s20 : z = 20
      · exact dt_tblI (off := 863) (tgt := 896) dL_law_33 hz (by omega) (by omega) (by rw [s20]; rfl) (by decide) (law_c20 hL hi hC hR hB hx hk)
      by_cases s21 : z = 21
      · exact dt_tblI (off := 886) (tgt := 919) dL_law_33 hz (by omega) (by omega) (by rw [s21]; rfl) (by decide) (law_c21 hL hi hC hR hB hx hk)
      by_cases s22 : z = 22
      · exact dt_tblI (off := 919) (tgt := 952) dL_law_33 hz (by omega) (by omega) (by rw [s22]; rfl) (by decide) (law_c22 hL hi hC hR hB hx hk)
      by_cases s23 : z = 23
      · exact dt_tblI (off := 962) (tgt := 995) dL_law_33 hz (by omega) (by omega) (by rw [s23]; rfl) (by decide) (law_c23 hL hi hC hR hB hx hk)
      by_cases s24 : z = 24
      · exact dt_tblI (off := 1005) (tgt := 1038) dL_law_33 hz (by omega) (by omega) (by rw [s24]; rfl) (by decide) (law_c24 hL hi hC hR hB hx hk)
      by_cases s25 : z = 25
      · exact dt_tblI (off := 1028) (tgt := 1061) dL_law_33 hz (by omega) (by omega) (by rw [s25]; rfl) (by decide) (law_c25 hL hi hC hR hB hx hk)
      by_cases s26 : z = 26
      · exact dt_tblI (off := 1051) (tgt := 1084) dL_law_33 hz (by omega) (by omega) (by rw [s26]; rfl) (by decide) (law_c26 hL hi hC hR hB hx hk)
      refine dt_tblO (tgt := 1097) dL_law_33 hz (by omega) (by decide) ?_
      exact dt_wk (by omega) (by omega) (hk ex σ A (by omega) hC hR (hB.mono (by omega)))
