/-! THE LAW: its calls -/
theorem lw_c0 {G : qG} {X : qX} {b L i : Nat} {xs : Nat → Int32} {μ : Mem} {S : St} (hX : LwX G X b L xs) (hL : L ≤ 320) (hi : i + 5 ≤ L) (hC : CAt μ S) (hM : MAt μ S) (kk : ∀ (μ9 : Mem) (S9 : St), CAt μ9 S9 → MAt μ9 S9 → Zw G X μ9 963 [some (.ref b), some (.ref (qB G + 0)), some (.ref (qB G + 140)), some (.int (nI i))] []) : Zw G X μ 152 [some (.ref b), some (.ref (qB G + 0)), some (.ref (qB G + 140)), some (.int (nI i))] [] := by
  have hR : qR X = room_1 := hX.1
  refine z_aload_1 iL_law_152 ?_
  refine z_aload_0 iL_law_153 ?_
  refine z_iload_3 iL_law_154 ?_
  refine z_iconst iL_law_155 kI_1 ?_
  refine z_iaddN iL_law_156 ?_
  refine w_sld hX iL_law_157 (by omega) hL ?_
  refine w_callI iL_law_158 l_L_13 f_X10_write (c_X10_write G _ hC _) rfl rfl rfl (Nat.le_of_ble_eq_true rfl) hR ⟨Nat.le_of_ble_eq_true rfl, Nat.le_of_ble_eq_true rfl⟩ ⟨rfl, rfl⟩ (by decide) (by decide) ?_
  rintro r1 μ1 ⟨rfl, hC1, hs1⟩
  have hM1 := hM.ms hs1
  refine z_aload_2 iL_law_161 ?_
  refine z_aload_0 iL_law_162 ?_
  refine z_iload_3 iL_law_163 ?_
  refine z_iconst iL_law_164 kI_1 ?_
  refine z_iaddN iL_law_165 ?_
  refine w_sld hX iL_law_166 (by omega) hL ?_
  refine w_callI iL_law_167 l_L_17 f_X11_write (c_X11_write G _ hM1 hC.1 _) rfl rfl rfl (Nat.le_of_ble_eq_true rfl) hR ⟨Nat.le_of_ble_eq_true rfl, Nat.le_of_ble_eq_true rfl⟩ ⟨rfl, rfl⟩ (by decide) (by decide) ?_
  rintro r2 μ2 ⟨rfl, hM2, hs2⟩
  exact z_icmp_eq iL_law_170 (fun _ => kk _ _ (hC1.cs hs2) hM2) (fun q => absurd rfl q)
theorem lw_c1 {G : qG} {X : qX} {b L i : Nat} {xs : Nat → Int32} {μ : Mem} {S : St} (hX : LwX G X b L xs) (hL : L ≤ 320) (hi : i + 5 ≤ L) (hC : CAt μ S) (hM : MAt μ S) (kk : ∀ (μ9 : Mem) (S9 : St), CAt μ9 S9 → MAt μ9 S9 → Zw G X μ9 963 [some (.ref b), some (.ref (qB G + 0)), some (.ref (qB G + 140)), some (.int (nI i))] []) : Zw G X μ 175 [some (.ref b), some (.ref (qB G + 0)), some (.ref (qB G + 140)), some (.int (nI i))] [] := by
  have hR : qR X = room_1 := hX.1
  refine z_aload_1 iL_law_175 ?_
  refine w_callI iL_law_176 l_L_18 f_X10_wipe (c_X10_wipe G _ hC) rfl rfl rfl (Nat.le_of_ble_eq_true rfl) hR ⟨Nat.le_of_ble_eq_true rfl, Nat.le_of_ble_eq_true rfl⟩ ⟨rfl, rfl⟩ (by decide) (by decide) ?_
  rintro r1 μ1 ⟨rfl, hC1, hs1⟩
  have hM1 := hM.ms hs1
  refine z_aload_2 iL_law_179 ?_
  refine w_callI iL_law_180 l_L_22 f_X11_wipe (c_X11_wipe G _ hM1 hC.1) rfl rfl rfl (Nat.le_of_ble_eq_true rfl) hR ⟨Nat.le_of_ble_eq_true rfl, Nat.le_of_ble_eq_true rfl⟩ ⟨rfl, rfl⟩ (by decide) (by decide) ?_
  rintro r2 μ2 ⟨rfl, hM2, hs2⟩
  exact z_icmp_eq iL_law_183 (fun _ => kk _ _ (hC1.cs hs2) hM2) (fun q => absurd rfl q)
theorem lw_c2 {G : qG} {X : qX} {b L i : Nat} {xs : Nat → Int32} {μ : Mem} {S : St} (hX : LwX G X b L xs) (hL : L ≤ 320) (hi : i + 5 ≤ L) (hC : CAt μ S) (hM : MAt μ S) (kk : ∀ (μ9 : Mem) (S9 : St), CAt μ9 S9 → MAt μ9 S9 → Zw G X μ9 963 [some (.ref b), some (.ref (qB G + 0)), some (.ref (qB G + 140)), some (.int (nI i))] []) : Zw G X μ 188 [some (.ref b), some (.ref (qB G + 0)), some (.ref (qB G + 140)), some (.int (nI i))] [] := by
  have hR : qR X = room_1 := hX.1
  refine z_aload_1 iL_law_188 ?_
  refine w_callI iL_law_189 l_L_23 f_X10_fault (c_X10_fault G _ hC) rfl rfl rfl (Nat.le_of_ble_eq_true rfl) hR ⟨Nat.le_of_ble_eq_true rfl, Nat.le_of_ble_eq_true rfl⟩ ⟨rfl, rfl⟩ (by decide) (by decide) ?_
  rintro r1 μ1 ⟨rfl, hC1, hs1⟩
  have hM1 := hM.ms hs1
  refine z_aload_2 iL_law_192 ?_
  refine w_callI iL_law_193 l_L_26 f_X11_fault (c_X11_fault G _ hM1 hC.1) rfl rfl rfl (Nat.le_of_ble_eq_true rfl) hR ⟨Nat.le_of_ble_eq_true rfl, Nat.le_of_ble_eq_true rfl⟩ ⟨rfl, rfl⟩ (by decide) (by decide) ?_
  rintro r2 μ2 ⟨rfl, hM2, hs2⟩
  exact z_icmp_eq iL_law_196 (fun _ => kk _ _ (hC1.cs hs2) hM2) (fun q => absurd rfl q)
theorem lw_c3 {G : qG} {X : qX} {b L i : Nat} {xs : Nat → Int32} {μ : Mem} {S : St} (hX : LwX G X b L xs) (hL : L ≤ 320) (hi : i + 5 ≤ L) (hC : CAt μ S) (hM : MAt μ S) (kk : ∀ (μ9 : Mem) (S9 : St), CAt μ9 S9 → MAt μ9 S9 → Zw G X μ9 963 [some (.ref b), some (.ref (qB G + 0)), some (.ref (qB G + 140)), some (.int (nI i))] []) : Zw G X μ 201 [some (.ref b), some (.ref (qB G + 0)), some (.ref (qB G + 140)), some (.int (nI i))] [] := by
  have hR : qR X = room_1 := hX.1
  refine z_aload_1 iL_law_201 ?_
  refine w_callI iL_law_202 l_L_27 f_X10_bazaar (c_X10_bazaar G _ hC) rfl rfl rfl (Nat.le_of_ble_eq_true rfl) hR ⟨Nat.le_of_ble_eq_true rfl, Nat.le_of_ble_eq_true rfl⟩ ⟨rfl, rfl⟩ (by decide) (by decide) ?_
  rintro r1 μ1 ⟨rfl, hC1, hs1⟩
  have hM1 := hM.ms hs1
  refine z_aload_2 iL_law_205 ?_
  refine w_callI iL_law_206 l_L_30 f_X11_bazaar (c_X11_bazaar G _ hM1 hC.1) rfl rfl rfl (Nat.le_of_ble_eq_true rfl) hR ⟨Nat.le_of_ble_eq_true rfl, Nat.le_of_ble_eq_true rfl⟩ ⟨rfl, rfl⟩ (by decide) (by decide) ?_
  rintro r2 μ2 ⟨rfl, hM2, hs2⟩
  exact z_icmp_eq iL_law_209 (fun _ => kk _ _ (hC1.cs hs2) hM2) (fun q => absurd rfl q)
theorem lw_c4 {G : qG} {X : qX} {b L i : Nat} {xs : Nat → Int32} {μ : Mem} {S : St} (hX : LwX G X b L xs) (hL : L ≤ 320) (hi : i + 5 ≤ L) (hC : CAt μ S) (hM : MAt μ S) (kk : ∀ (μ9 : Mem) (S9 : St), CAt μ9 S9 → MAt μ9 S9 → Zw G X μ9 963 [some (.ref b), some (.ref (qB G + 0)), some (.ref (qB G + 140)), some (.int (nI i))] []) : Zw G X μ 214 [some (.ref b), some (.ref (qB G + 0)), some (.ref (qB G + 140)), some (.int (nI i))] [] := by
  have hR : qR X = room_1 := hX.1
  refine z_aload_1 iL_law_214 ?_
  refine z_aload_0 iL_law_215 ?_
  refine z_iload_3 iL_law_216 ?_
  refine z_iconst iL_law_217 kI_1 ?_
  refine z_iaddN iL_law_218 ?_
  refine w_sld hX iL_law_219 (by omega) hL ?_
  refine z_aload_0 iL_law_220 ?_
  refine z_iload_3 iL_law_221 ?_
  refine z_iconst iL_law_222 kI_2 ?_
  refine z_iaddN iL_law_223 ?_
  refine w_sld hX iL_law_224 (by omega) hL ?_
  refine w_callI iL_law_225 l_L_31 f_X10_fencer (c_X10_fencer G _ hC _ _) rfl rfl rfl (Nat.le_of_ble_eq_true rfl) hR ⟨Nat.le_of_ble_eq_true rfl, Nat.le_of_ble_eq_true rfl⟩ ⟨rfl, rfl⟩ (by decide) (by decide) ?_
  rintro r1 μ1 ⟨rfl, hC1, hs1⟩
  have hM1 := hM.ms hs1
  refine z_aload_2 iL_law_228 ?_
  refine z_aload_0 iL_law_229 ?_
  refine z_iload_3 iL_law_230 ?_
  refine z_iconst iL_law_231 kI_1 ?_
  refine z_iaddN iL_law_232 ?_
  refine w_sld hX iL_law_233 (by omega) hL ?_
  refine z_aload_0 iL_law_234 ?_
  refine z_iload_3 iL_law_235 ?_
  refine z_iconst iL_law_236 kI_2 ?_
  refine z_iaddN iL_law_237 ?_
  refine w_sld hX iL_law_238 (by omega) hL ?_
  refine w_callI iL_law_239 l_L_35 f_X11_fencer (c_X11_fencer G _ hM1 hC.1 _ _) rfl rfl rfl (Nat.le_of_ble_eq_true rfl) hR ⟨Nat.le_of_ble_eq_true rfl, Nat.le_of_ble_eq_true rfl⟩ ⟨rfl, rfl⟩ (by decide) (by decide) ?_
  rintro r2 μ2 ⟨rfl, hM2, hs2⟩
  exact z_icmp_eq iL_law_242 (fun _ => kk _ _ (hC1.cs hs2) hM2) (fun q => absurd rfl q)
theorem lw_c5 {G : qG} {X : qX} {b L i : Nat} {xs : Nat → Int32} {μ : Mem} {S : St} (hX : LwX G X b L xs) (hL : L ≤ 320) (hi : i + 5 ≤ L) (hC : CAt μ S) (hM : MAt μ S) (kk : ∀ (μ9 : Mem) (S9 : St), CAt μ9 S9 → MAt μ9 S9 → Zw G X μ9 963 [some (.ref b), some (.ref (qB G + 0)), some (.ref (qB G + 140)), some (.int (nI i))] []) : Zw G X μ 247 [some (.ref b), some (.ref (qB G + 0)), some (.ref (qB G + 140)), some (.int (nI i))] [] := by
  have hR : qR X = room_1 := hX.1
  refine z_aload_1 iL_law_247 ?_
  refine z_aload_0 iL_law_248 ?_
  refine z_iload_3 iL_law_249 ?_
  refine z_iconst iL_law_250 kI_1 ?_
  refine z_iaddN iL_law_251 ?_
  refine w_sld hX iL_law_252 (by omega) hL ?_
  refine z_aload_0 iL_law_253 ?_
  refine z_iload_3 iL_law_254 ?_
  refine z_iconst iL_law_255 kI_2 ?_
  refine z_iaddN iL_law_256 ?_
  refine w_sld hX iL_law_257 (by omega) hL ?_
  refine w_callI iL_law_258 l_L_36 f_X10_good (c_X10_good G _ hC _ _) rfl rfl rfl (Nat.le_of_ble_eq_true rfl) hR ⟨Nat.le_of_ble_eq_true rfl, Nat.le_of_ble_eq_true rfl⟩ ⟨rfl, rfl⟩ (by decide) (by decide) ?_
  rintro r1 μ1 ⟨rfl, hC1, hs1⟩
  have hM1 := hM.ms hs1
  refine z_aload_2 iL_law_261 ?_
  refine z_aload_0 iL_law_262 ?_
  refine z_iload_3 iL_law_263 ?_
  refine z_iconst iL_law_264 kI_1 ?_
  refine z_iaddN iL_law_265 ?_
  refine w_sld hX iL_law_266 (by omega) hL ?_
  refine z_aload_0 iL_law_267 ?_
  refine z_iload_3 iL_law_268 ?_
  refine z_iconst iL_law_269 kI_2 ?_
  refine z_iaddN iL_law_270 ?_
  refine w_sld hX iL_law_271 (by omega) hL ?_
  refine w_callI iL_law_272 l_L_39 f_X11_good (c_X11_good G _ hM1 hC.1 _ _) rfl rfl rfl (Nat.le_of_ble_eq_true rfl) hR ⟨Nat.le_of_ble_eq_true rfl, Nat.le_of_ble_eq_true rfl⟩ ⟨rfl, rfl⟩ (by decide) (by decide) ?_
  rintro r2 μ2 ⟨rfl, hM2, hs2⟩
  exact z_icmp_eq iL_law_275 (fun _ => kk _ _ (hC1.cs hs2) hM2) (fun q => absurd rfl q)
theorem lw_c6 {G : qG} {X : qX} {b L i : Nat} {xs : Nat → Int32} {μ : Mem} {S : St} (hX : LwX G X b L xs) (hL : L ≤ 320) (hi : i + 5 ≤ L) (hC : CAt μ S) (hM : MAt μ S) (kk : ∀ (μ9 : Mem) (S9 : St), CAt μ9 S9 → MAt μ9 S9 → Zw G X μ9 963 [some (.ref b), some (.ref (qB G + 0)), some (.ref (qB G + 140)), some (.int (nI i))] []) : Zw G X μ 280 [some (.ref b), some (.ref (qB G + 0)), some (.ref (qB G + 140)), some (.int (nI i))] [] := by
  have hR : qR X = room_1 := hX.1
  refine z_aload_1 iL_law_280 ?_
  refine z_aload_0 iL_law_281 ?_
  refine z_iload_3 iL_law_282 ?_
  refine z_iconst iL_law_283 kI_1 ?_
  refine z_iaddN iL_law_284 ?_
  refine w_sld hX iL_law_285 (by omega) hL ?_
  refine z_aload_0 iL_law_286 ?_
  refine z_iload_3 iL_law_287 ?_
  refine z_iconst iL_law_288 kI_2 ?_
  refine z_iaddN iL_law_289 ?_
  refine w_sld hX iL_law_290 (by omega) hL ?_
  refine z_aload_0 iL_law_291 ?_
  refine z_iload_3 iL_law_292 ?_
  refine z_iconst iL_law_293 kI_3 ?_
  refine z_iaddN iL_law_294 ?_
  refine w_sld hX iL_law_295 (by omega) hL ?_
  refine w_callI iL_law_296 l_L_40 f_X10_bout (c_X10_bout G _ hC _ _ _) rfl rfl rfl (Nat.le_of_ble_eq_true rfl) hR ⟨Nat.le_of_ble_eq_true rfl, Nat.le_of_ble_eq_true rfl⟩ ⟨rfl, rfl⟩ (by decide) (by decide) ?_
  rintro r1 μ1 ⟨rfl, hC1, hs1⟩
  have hM1 := hM.ms hs1
  refine z_aload_2 iL_law_299 ?_
  refine z_aload_0 iL_law_300 ?_
  refine z_iload_3 iL_law_301 ?_
  refine z_iconst iL_law_302 kI_1 ?_
  refine z_iaddN iL_law_303 ?_
  refine w_sld hX iL_law_304 (by omega) hL ?_
  refine z_aload_0 iL_law_305 ?_
  refine z_iload_3 iL_law_306 ?_
  refine z_iconst iL_law_307 kI_2 ?_
  refine z_iaddN iL_law_308 ?_
  refine w_sld hX iL_law_309 (by omega) hL ?_
  refine z_aload_0 iL_law_310 ?_
  refine z_iload_3 iL_law_311 ?_
  refine z_iconst iL_law_312 kI_3 ?_
  refine z_iaddN iL_law_313 ?_
  refine w_sld hX iL_law_314 (by omega) hL ?_
  refine w_callI iL_law_315 l_L_44 f_X11_bout (c_X11_bout G _ hM1 hC.1 _ _ _) rfl rfl rfl (Nat.le_of_ble_eq_true rfl) hR ⟨Nat.le_of_ble_eq_true rfl, Nat.le_of_ble_eq_true rfl⟩ ⟨rfl, rfl⟩ (by decide) (by decide) ?_
  rintro r2 μ2 ⟨rfl, hM2, hs2⟩
  exact z_icmp_eq iL_law_318 (fun _ => kk _ _ (hC1.cs hs2) hM2) (fun q => absurd rfl q)
theorem lw_c7 {G : qG} {X : qX} {b L i : Nat} {xs : Nat → Int32} {μ : Mem} {S : St} (hX : LwX G X b L xs) (hL : L ≤ 320) (hi : i + 5 ≤ L) (hC : CAt μ S) (hM : MAt μ S) (kk : ∀ (μ9 : Mem) (S9 : St), CAt μ9 S9 → MAt μ9 S9 → Zw G X μ9 963 [some (.ref b), some (.ref (qB G + 0)), some (.ref (qB G + 140)), some (.int (nI i))] []) : Zw G X μ 323 [some (.ref b), some (.ref (qB G + 0)), some (.ref (qB G + 140)), some (.int (nI i))] [] := by
  have hR : qR X = room_1 := hX.1
  refine z_aload_1 iL_law_323 ?_
  refine z_aload_0 iL_law_324 ?_
  refine z_iload_3 iL_law_325 ?_
  refine z_iconst iL_law_326 kI_1 ?_
  refine z_iaddN iL_law_327 ?_
  refine w_sld hX iL_law_328 (by omega) hL ?_
  refine z_aload_0 iL_law_329 ?_
  refine z_iload_3 iL_law_330 ?_
  refine z_iconst iL_law_331 kI_2 ?_
  refine z_iaddN iL_law_332 ?_
  refine w_sld hX iL_law_333 (by omega) hL ?_
  refine w_callI iL_law_334 l_L_45 f_X10_cost (c_X10_cost G _ hC _ _) rfl rfl rfl (Nat.le_of_ble_eq_true rfl) hR ⟨Nat.le_of_ble_eq_true rfl, Nat.le_of_ble_eq_true rfl⟩ ⟨rfl, rfl⟩ (by decide) (by decide) ?_
  rintro r1 μ1 ⟨rfl, hC1, hs1⟩
  have hM1 := hM.ms hs1
  refine z_aload_2 iL_law_337 ?_
  refine z_aload_0 iL_law_338 ?_
  refine z_iload_3 iL_law_339 ?_
  refine z_iconst iL_law_340 kI_1 ?_
  refine z_iaddN iL_law_341 ?_
  refine w_sld hX iL_law_342 (by omega) hL ?_
  refine z_aload_0 iL_law_343 ?_
  refine z_iload_3 iL_law_344 ?_
  refine z_iconst iL_law_345 kI_2 ?_
  refine z_iaddN iL_law_346 ?_
  refine w_sld hX iL_law_347 (by omega) hL ?_
  refine w_callI iL_law_348 l_L_48 f_X11_cost (c_X11_cost G _ hM1 hC.1 _ _) rfl rfl rfl (Nat.le_of_ble_eq_true rfl) hR ⟨Nat.le_of_ble_eq_true rfl, Nat.le_of_ble_eq_true rfl⟩ ⟨rfl, rfl⟩ (by decide) (by decide) ?_
  rintro r2 μ2 ⟨rfl, hM2, hs2⟩
  exact z_icmp_eq iL_law_351 (fun _ => kk _ _ (hC1.cs hs2) hM2) (fun q => absurd rfl q)
theorem lw_c8 {G : qG} {X : qX} {b L i : Nat} {xs : Nat → Int32} {μ : Mem} {S : St} (hX : LwX G X b L xs) (hL : L ≤ 320) (hi : i + 5 ≤ L) (hC : CAt μ S) (hM : MAt μ S) (kk : ∀ (μ9 : Mem) (S9 : St), CAt μ9 S9 → MAt μ9 S9 → Zw G X μ9 963 [some (.ref b), some (.ref (qB G + 0)), some (.ref (qB G + 140)), some (.int (nI i))] []) : Zw G X μ 356 [some (.ref b), some (.ref (qB G + 0)), some (.ref (qB G + 140)), some (.int (nI i))] [] := by
  have hR : qR X = room_1 := hX.1
  refine z_aload_1 iL_law_356 ?_
  refine z_aload_0 iL_law_357 ?_
  refine z_iload_3 iL_law_358 ?_
  refine z_iconst iL_law_359 kI_1 ?_
  refine z_iaddN iL_law_360 ?_
  refine w_sld hX iL_law_361 (by omega) hL ?_
  refine z_aload_0 iL_law_362 ?_
  refine z_iload_3 iL_law_363 ?_
  refine z_iconst iL_law_364 kI_2 ?_
  refine z_iaddN iL_law_365 ?_
  refine w_sld hX iL_law_366 (by omega) hL ?_
  refine w_callI iL_law_367 l_L_49 f_X10_meet (c_X10_meet G _ hC _ _) rfl rfl rfl (Nat.le_of_ble_eq_true rfl) hR ⟨Nat.le_of_ble_eq_true rfl, Nat.le_of_ble_eq_true rfl⟩ ⟨rfl, rfl⟩ (by decide) (by decide) ?_
  rintro r1 μ1 ⟨rfl, hC1, hs1⟩
  have hM1 := hM.ms hs1
  refine z_aload_2 iL_law_370 ?_
  refine z_aload_0 iL_law_371 ?_
  refine z_iload_3 iL_law_372 ?_
  refine z_iconst iL_law_373 kI_1 ?_
  refine z_iaddN iL_law_374 ?_
  refine w_sld hX iL_law_375 (by omega) hL ?_
  refine z_aload_0 iL_law_376 ?_
  refine z_iload_3 iL_law_377 ?_
  refine z_iconst iL_law_378 kI_2 ?_
  refine z_iaddN iL_law_379 ?_
  refine w_sld hX iL_law_380 (by omega) hL ?_
  refine w_callI iL_law_381 l_L_52 f_X11_meet (c_X11_meet G _ hM1 hC.1 _ _) rfl rfl rfl (Nat.le_of_ble_eq_true rfl) hR ⟨Nat.le_of_ble_eq_true rfl, Nat.le_of_ble_eq_true rfl⟩ ⟨rfl, rfl⟩ (by decide) (by decide) ?_
  rintro r2 μ2 ⟨rfl, hM2, hs2⟩
  exact z_icmp_eq iL_law_384 (fun _ => kk _ _ (hC1.cs hs2) hM2) (fun q => absurd rfl q)
theorem lw_c9 {G : qG} {X : qX} {b L i : Nat} {xs : Nat → Int32} {μ : Mem} {S : St} (hX : LwX G X b L xs) (hL : L ≤ 320) (hi : i + 5 ≤ L) (hC : CAt μ S) (hM : MAt μ S) (kk : ∀ (μ9 : Mem) (S9 : St), CAt μ9 S9 → MAt μ9 S9 → Zw G X μ9 963 [some (.ref b), some (.ref (qB G + 0)), some (.ref (qB G + 140)), some (.int (nI i))] []) : Zw G X μ 389 [some (.ref b), some (.ref (qB G + 0)), some (.ref (qB G + 140)), some (.int (nI i))] [] := by
  have hR : qR X = room_1 := hX.1
  refine z_aload_1 iL_law_389 ?_
  refine z_aload_0 iL_law_390 ?_
  refine z_iload_3 iL_law_391 ?_
  refine z_iconst iL_law_392 kI_1 ?_
  refine z_iaddN iL_law_393 ?_
  refine w_sld hX iL_law_394 (by omega) hL ?_
  refine w_callI iL_law_395 l_L_53 f_X10_step (c_X10_step G _ hC _) rfl rfl rfl (Nat.le_of_ble_eq_true rfl) hR ⟨Nat.le_of_ble_eq_true rfl, Nat.le_of_ble_eq_true rfl⟩ ⟨rfl, rfl⟩ (by decide) (by decide) ?_
  rintro r1 μ1 ⟨rfl, hC1, hs1⟩
  have hM1 := hM.ms hs1
  refine z_aload_2 iL_law_398 ?_
  refine z_aload_0 iL_law_399 ?_
  refine z_iload_3 iL_law_400 ?_
  refine z_iconst iL_law_401 kI_1 ?_
  refine z_iaddN iL_law_402 ?_
  refine w_sld hX iL_law_403 (by omega) hL ?_
  refine w_callI iL_law_404 l_L_56 f_X11_step (c_X11_step G _ hM1 hC.1 _) rfl rfl rfl (Nat.le_of_ble_eq_true rfl) hR ⟨Nat.le_of_ble_eq_true rfl, Nat.le_of_ble_eq_true rfl⟩ ⟨rfl, rfl⟩ (by decide) (by decide) ?_
  rintro r2 μ2 ⟨rfl, hM2, hs2⟩
  exact z_icmp_eq iL_law_407 (fun _ => kk _ _ (hC1.cs hs2) hM2) (fun q => absurd rfl q)
theorem lw_c10 {G : qG} {X : qX} {b L i : Nat} {xs : Nat → Int32} {μ : Mem} {S : St} (hX : LwX G X b L xs) (hL : L ≤ 320) (hi : i + 5 ≤ L) (hC : CAt μ S) (hM : MAt μ S) (kk : ∀ (μ9 : Mem) (S9 : St), CAt μ9 S9 → MAt μ9 S9 → Zw G X μ9 963 [some (.ref b), some (.ref (qB G + 0)), some (.ref (qB G + 140)), some (.int (nI i))] []) : Zw G X μ 412 [some (.ref b), some (.ref (qB G + 0)), some (.ref (qB G + 140)), some (.int (nI i))] [] := by
  have hR : qR X = room_1 := hX.1
  refine z_aload_1 iL_law_412 ?_
  refine z_aload_0 iL_law_413 ?_
  refine z_iload_3 iL_law_414 ?_
  refine z_iconst iL_law_415 kI_1 ?_
  refine z_iaddN iL_law_416 ?_
  refine w_sld hX iL_law_417 (by omega) hL ?_
  refine z_aload_0 iL_law_418 ?_
  refine z_iload_3 iL_law_419 ?_
  refine z_iconst iL_law_420 kI_2 ?_
  refine z_iaddN iL_law_421 ?_
  refine w_sld hX iL_law_422 (by omega) hL ?_
  refine w_callI iL_law_423 l_L_57 f_X10_salute (c_X10_salute G _ hC _ _) rfl rfl rfl (Nat.le_of_ble_eq_true rfl) hR ⟨Nat.le_of_ble_eq_true rfl, Nat.le_of_ble_eq_true rfl⟩ ⟨rfl, rfl⟩ (by decide) (by decide) ?_
  rintro r1 μ1 ⟨rfl, hC1, hs1⟩
  have hM1 := hM.ms hs1
  refine z_aload_2 iL_law_426 ?_
  refine z_aload_0 iL_law_427 ?_
  refine z_iload_3 iL_law_428 ?_
  refine z_iconst iL_law_429 kI_1 ?_
  refine z_iaddN iL_law_430 ?_
  refine w_sld hX iL_law_431 (by omega) hL ?_
  refine z_aload_0 iL_law_432 ?_
  refine z_iload_3 iL_law_433 ?_
  refine z_iconst iL_law_434 kI_2 ?_
  refine z_iaddN iL_law_435 ?_
  refine w_sld hX iL_law_436 (by omega) hL ?_
  refine w_callI iL_law_437 l_L_60 f_X11_salute (c_X11_salute G _ hM1 hC.1 _ _) rfl rfl rfl (Nat.le_of_ble_eq_true rfl) hR ⟨Nat.le_of_ble_eq_true rfl, Nat.le_of_ble_eq_true rfl⟩ ⟨rfl, rfl⟩ (by decide) (by decide) ?_
  rintro r2 μ2 ⟨rfl, hM2, hs2⟩
  exact z_icmp_eq iL_law_440 (fun _ => kk _ _ (hC1.cs hs2) hM2) (fun q => absurd rfl q)
theorem lw_c11 {G : qG} {X : qX} {b L i : Nat} {xs : Nat → Int32} {μ : Mem} {S : St} (hX : LwX G X b L xs) (hL : L ≤ 320) (hi : i + 5 ≤ L) (hC : CAt μ S) (hM : MAt μ S) (kk : ∀ (μ9 : Mem) (S9 : St), CAt μ9 S9 → MAt μ9 S9 → Zw G X μ9 963 [some (.ref b), some (.ref (qB G + 0)), some (.ref (qB G + 140)), some (.int (nI i))] []) : Zw G X μ 445 [some (.ref b), some (.ref (qB G + 0)), some (.ref (qB G + 140)), some (.int (nI i))] [] := by
  have hR : qR X = room_1 := hX.1
  refine z_aload_1 iL_law_445 ?_
  refine w_callI iL_law_446 l_L_61 f_X10_undo (c_X10_undo G _ hC) rfl rfl rfl (Nat.le_of_ble_eq_true rfl) hR ⟨Nat.le_of_ble_eq_true rfl, Nat.le_of_ble_eq_true rfl⟩ ⟨rfl, rfl⟩ (by decide) (by decide) ?_
  rintro r1 μ1 ⟨rfl, hC1, hs1⟩
  have hM1 := hM.ms hs1
  refine z_aload_2 iL_law_449 ?_
  refine w_callI iL_law_450 l_L_64 f_X11_undo (c_X11_undo G _ hM1 hC.1) rfl rfl rfl (Nat.le_of_ble_eq_true rfl) hR ⟨Nat.le_of_ble_eq_true rfl, Nat.le_of_ble_eq_true rfl⟩ ⟨rfl, rfl⟩ (by decide) (by decide) ?_
  rintro r2 μ2 ⟨rfl, hM2, hs2⟩
  exact z_icmp_eq iL_law_453 (fun _ => kk _ _ (hC1.cs hs2) hM2) (fun q => absurd rfl q)
theorem lw_c12 {G : qG} {X : qX} {b L i : Nat} {xs : Nat → Int32} {μ : Mem} {S : St} (hX : LwX G X b L xs) (hL : L ≤ 320) (hi : i + 5 ≤ L) (hC : CAt μ S) (hM : MAt μ S) (kk : ∀ (μ9 : Mem) (S9 : St), CAt μ9 S9 → MAt μ9 S9 → Zw G X μ9 963 [some (.ref b), some (.ref (qB G + 0)), some (.ref (qB G + 140)), some (.int (nI i))] []) : Zw G X μ 458 [some (.ref b), some (.ref (qB G + 0)), some (.ref (qB G + 140)), some (.int (nI i))] [] := by
  have hR : qR X = room_1 := hX.1
  refine z_aload_1 iL_law_458 ?_
  refine z_aload_0 iL_law_459 ?_
  refine z_iload_3 iL_law_460 ?_
  refine z_iconst iL_law_461 kI_1 ?_
  refine z_iaddN iL_law_462 ?_
  refine w_sld hX iL_law_463 (by omega) hL ?_
  refine z_aload_0 iL_law_464 ?_
  refine z_iload_3 iL_law_465 ?_
  refine z_iconst iL_law_466 kI_2 ?_
  refine z_iaddN iL_law_467 ?_
  refine w_sld hX iL_law_468 (by omega) hL ?_
  refine z_aload_0 iL_law_469 ?_
  refine z_iload_3 iL_law_470 ?_
  refine z_iconst iL_law_471 kI_3 ?_
  refine z_iaddN iL_law_472 ?_
  refine w_sld hX iL_law_473 (by omega) hL ?_
  refine w_callI iL_law_474 l_L_65 f_X10_chain (c_X10_chain G _ hC _ _ _) rfl rfl rfl (Nat.le_of_ble_eq_true rfl) hR ⟨Nat.le_of_ble_eq_true rfl, Nat.le_of_ble_eq_true rfl⟩ ⟨rfl, rfl⟩ (by decide) (by decide) ?_
  rintro r1 μ1 ⟨rfl, hC1, hs1⟩
  have hM1 := hM.ms hs1
  refine z_aload_2 iL_law_477 ?_
  refine z_aload_0 iL_law_478 ?_
  refine z_iload_3 iL_law_479 ?_
  refine z_iconst iL_law_480 kI_1 ?_
  refine z_iaddN iL_law_481 ?_
  refine w_sld hX iL_law_482 (by omega) hL ?_
  refine z_aload_0 iL_law_483 ?_
  refine z_iload_3 iL_law_484 ?_
  refine z_iconst iL_law_485 kI_2 ?_
  refine z_iaddN iL_law_486 ?_
  refine w_sld hX iL_law_487 (by omega) hL ?_
  refine z_aload_0 iL_law_488 ?_
  refine z_iload_3 iL_law_489 ?_
  refine z_iconst iL_law_490 kI_3 ?_
  refine z_iaddN iL_law_491 ?_
  refine w_sld hX iL_law_492 (by omega) hL ?_
  refine w_callI iL_law_493 l_L_68 f_X11_chain (c_X11_chain G _ hM1 hC.1 _ _ _) rfl rfl rfl (Nat.le_of_ble_eq_true rfl) hR ⟨Nat.le_of_ble_eq_true rfl, Nat.le_of_ble_eq_true rfl⟩ ⟨rfl, rfl⟩ (by decide) (by decide) ?_
  rintro r2 μ2 ⟨rfl, hM2, hs2⟩
  exact z_icmp_eq iL_law_496 (fun _ => kk _ _ (hC1.cs hs2) hM2) (fun q => absurd rfl q)
theorem lw_c13 {G : qG} {X : qX} {b L i : Nat} {xs : Nat → Int32} {μ : Mem} {S : St} (hX : LwX G X b L xs) (hL : L ≤ 320) (hi : i + 5 ≤ L) (hC : CAt μ S) (hM : MAt μ S) (kk : ∀ (μ9 : Mem) (S9 : St), CAt μ9 S9 → MAt μ9 S9 → Zw G X μ9 963 [some (.ref b), some (.ref (qB G + 0)), some (.ref (qB G + 140)), some (.int (nI i))] []) : Zw G X μ 501 [some (.ref b), some (.ref (qB G + 0)), some (.ref (qB G + 140)), some (.int (nI i))] [] := by
  have hR : qR X = room_1 := hX.1
  refine z_aload_1 iL_law_501 ?_
  refine z_aload_0 iL_law_502 ?_
  refine z_iload_3 iL_law_503 ?_
  refine z_iconst iL_law_504 kI_1 ?_
  refine z_iaddN iL_law_505 ?_
  refine w_sld hX iL_law_506 (by omega) hL ?_
  refine w_callI iL_law_507 l_L_69 f_X10_order (c_X10_order G _ hC _) rfl rfl rfl (Nat.le_of_ble_eq_true rfl) hR ⟨Nat.le_of_ble_eq_true rfl, Nat.le_of_ble_eq_true rfl⟩ ⟨rfl, rfl⟩ (by decide) (by decide) ?_
  rintro r1 μ1 ⟨rfl, hC1, hs1⟩
  have hM1 := hM.ms hs1
  refine z_aload_2 iL_law_510 ?_
  refine z_aload_0 iL_law_511 ?_
  refine z_iload_3 iL_law_512 ?_
  refine z_iconst iL_law_513 kI_1 ?_
  refine z_iaddN iL_law_514 ?_
  refine w_sld hX iL_law_515 (by omega) hL ?_
  refine w_callI iL_law_516 l_L_72 f_X11_order (c_X11_order G _ hM1 hC.1 _) rfl rfl rfl (Nat.le_of_ble_eq_true rfl) hR ⟨Nat.le_of_ble_eq_true rfl, Nat.le_of_ble_eq_true rfl⟩ ⟨rfl, rfl⟩ (by decide) (by decide) ?_
  rintro r2 μ2 ⟨rfl, hM2, hs2⟩
  exact z_icmp_eq iL_law_519 (fun _ => kk _ _ (hC1.cs hs2) hM2) (fun q => absurd rfl q)
theorem lw_c14 {G : qG} {X : qX} {b L i : Nat} {xs : Nat → Int32} {μ : Mem} {S : St} (hX : LwX G X b L xs) (hL : L ≤ 320) (hi : i + 5 ≤ L) (hC : CAt μ S) (hM : MAt μ S) (kk : ∀ (μ9 : Mem) (S9 : St), CAt μ9 S9 → MAt μ9 S9 → Zw G X μ9 963 [some (.ref b), some (.ref (qB G + 0)), some (.ref (qB G + 140)), some (.int (nI i))] []) : Zw G X μ 524 [some (.ref b), some (.ref (qB G + 0)), some (.ref (qB G + 140)), some (.int (nI i))] [] := by
  have hR : qR X = room_1 := hX.1
  refine z_aload_1 iL_law_524 ?_
  refine z_aload_0 iL_law_525 ?_
  refine z_iload_3 iL_law_526 ?_
  refine z_iconst iL_law_527 kI_1 ?_
  refine z_iaddN iL_law_528 ?_
  refine w_sld hX iL_law_529 (by omega) hL ?_
  refine z_aload_0 iL_law_530 ?_
  refine z_iload_3 iL_law_531 ?_
  refine z_iconst iL_law_532 kI_2 ?_
  refine z_iaddN iL_law_533 ?_
  refine w_sld hX iL_law_534 (by omega) hL ?_
  refine z_i2l iL_law_535 ?_
  refine z_bipush iL_law_536 kB_32 ?_
  refine z_lshl iL_law_538 ?_
  refine z_aload_0 iL_law_539 ?_
  refine z_iload_3 iL_law_540 ?_
  refine z_iconst iL_law_541 kI_3 ?_
  refine z_iaddN iL_law_542 ?_
  refine w_sld hX iL_law_543 (by omega) hL ?_
  refine z_i2l iL_law_544 ?_
  refine z_ldc2 iL_law_545 k_L_73 ?_
  refine z_land iL_law_548 ?_
  refine z_lor iL_law_549 ?_
  refine w_callI iL_law_550 l_L_75 f_X10_judge (c_X10_judge G _ hC _ _) rfl rfl rfl (Nat.le_of_ble_eq_true rfl) hR ⟨Nat.le_of_ble_eq_true rfl, Nat.le_of_ble_eq_true rfl⟩ ⟨rfl, rfl⟩ (by decide) (by decide) ?_
  rintro r1 μ1 ⟨rfl, hC1, hs1⟩
  have hM1 := hM.ms hs1
  refine z_aload_2 iL_law_553 ?_
  refine z_aload_0 iL_law_554 ?_
  refine z_iload_3 iL_law_555 ?_
  refine z_iconst iL_law_556 kI_1 ?_
  refine z_iaddN iL_law_557 ?_
  refine w_sld hX iL_law_558 (by omega) hL ?_
  refine z_aload_0 iL_law_559 ?_
  refine z_iload_3 iL_law_560 ?_
  refine z_iconst iL_law_561 kI_2 ?_
  refine z_iaddN iL_law_562 ?_
  refine w_sld hX iL_law_563 (by omega) hL ?_
  refine z_i2l iL_law_564 ?_
  refine z_bipush iL_law_565 kB_32 ?_
  refine z_lshl iL_law_567 ?_
  refine z_aload_0 iL_law_568 ?_
  refine z_iload_3 iL_law_569 ?_
  refine z_iconst iL_law_570 kI_3 ?_
  refine z_iaddN iL_law_571 ?_
  refine w_sld hX iL_law_572 (by omega) hL ?_
  refine z_i2l iL_law_573 ?_
  refine z_ldc2 iL_law_574 k_L_73 ?_
  refine z_land iL_law_577 ?_
  refine z_lor iL_law_578 ?_
  refine w_callI iL_law_579 l_L_79 f_X11_judge (c_X11_judge G _ hM1 hC.1 _ _) rfl rfl rfl (Nat.le_of_ble_eq_true rfl) hR ⟨Nat.le_of_ble_eq_true rfl, Nat.le_of_ble_eq_true rfl⟩ ⟨rfl, rfl⟩ (by decide) (by decide) ?_
  rintro r2 μ2 ⟨rfl, hM2, hs2⟩
  exact z_icmp_eq iL_law_582 (fun _ => kk _ _ (hC1.cs hs2) hM2) (fun q => absurd rfl q)
theorem lw_c15 {G : qG} {X : qX} {b L i : Nat} {xs : Nat → Int32} {μ : Mem} {S : St} (hX : LwX G X b L xs) (hL : L ≤ 320) (hi : i + 5 ≤ L) (hC : CAt μ S) (hM : MAt μ S) (kk : ∀ (μ9 : Mem) (S9 : St), CAt μ9 S9 → MAt μ9 S9 → Zw G X μ9 963 [some (.ref b), some (.ref (qB G + 0)), some (.ref (qB G + 140)), some (.int (nI i))] []) : Zw G X μ 587 [some (.ref b), some (.ref (qB G + 0)), some (.ref (qB G + 140)), some (.int (nI i))] [] := by
  have hR : qR X = room_1 := hX.1
  refine z_aload_1 iL_law_587 ?_
  refine z_aload_0 iL_law_588 ?_
  refine z_iload_3 iL_law_589 ?_
  refine z_iconst iL_law_590 kI_1 ?_
  refine z_iaddN iL_law_591 ?_
  refine w_sld hX iL_law_592 (by omega) hL ?_
  refine z_aload_0 iL_law_593 ?_
  refine z_iload_3 iL_law_594 ?_
  refine z_iconst iL_law_595 kI_2 ?_
  refine z_iaddN iL_law_596 ?_
  refine w_sld hX iL_law_597 (by omega) hL ?_
  refine w_callI iL_law_598 l_L_80 f_X10_see (c_X10_see G _ hC _ _) rfl rfl rfl (Nat.le_of_ble_eq_true rfl) hR ⟨Nat.le_of_ble_eq_true rfl, Nat.le_of_ble_eq_true rfl⟩ ⟨rfl, rfl⟩ (by decide) (by decide) ?_
  rintro r1 μ1 ⟨rfl, hC1, hs1⟩
  have hM1 := hM.ms hs1
  refine z_aload_2 iL_law_601 ?_
  refine z_aload_0 iL_law_602 ?_
  refine z_iload_3 iL_law_603 ?_
  refine z_iconst iL_law_604 kI_1 ?_
  refine z_iaddN iL_law_605 ?_
  refine w_sld hX iL_law_606 (by omega) hL ?_
  refine z_aload_0 iL_law_607 ?_
  refine z_iload_3 iL_law_608 ?_
  refine z_iconst iL_law_609 kI_2 ?_
  refine z_iaddN iL_law_610 ?_
  refine w_sld hX iL_law_611 (by omega) hL ?_
  refine w_callI iL_law_612 l_L_83 f_X11_see (c_X11_see G _ hM1 hC.1 _ _) rfl rfl rfl (Nat.le_of_ble_eq_true rfl) hR ⟨Nat.le_of_ble_eq_true rfl, Nat.le_of_ble_eq_true rfl⟩ ⟨rfl, rfl⟩ (by decide) (by decide) ?_
  rintro r2 μ2 ⟨rfl, hM2, hs2⟩
  exact z_icmp_eq iL_law_615 (fun _ => kk _ _ (hC1.cs hs2) hM2) (fun q => absurd rfl q)
theorem lw_c16 {G : qG} {X : qX} {b L i : Nat} {xs : Nat → Int32} {μ : Mem} {S : St} (hX : LwX G X b L xs) (hL : L ≤ 320) (hi : i + 5 ≤ L) (hC : CAt μ S) (hM : MAt μ S) (kk : ∀ (μ9 : Mem) (S9 : St), CAt μ9 S9 → MAt μ9 S9 → Zw G X μ9 963 [some (.ref b), some (.ref (qB G + 0)), some (.ref (qB G + 140)), some (.int (nI i))] []) : Zw G X μ 620 [some (.ref b), some (.ref (qB G + 0)), some (.ref (qB G + 140)), some (.int (nI i))] [] := by
  have hR : qR X = room_1 := hX.1
  refine z_aload_1 iL_law_620 ?_
  refine w_callI iL_law_621 l_L_84 f_X10_unsee (c_X10_unsee G _ hC) rfl rfl rfl (Nat.le_of_ble_eq_true rfl) hR ⟨Nat.le_of_ble_eq_true rfl, Nat.le_of_ble_eq_true rfl⟩ ⟨rfl, rfl⟩ (by decide) (by decide) ?_
  rintro r1 μ1 ⟨rfl, hC1, hs1⟩
  have hM1 := hM.ms hs1
  refine z_aload_2 iL_law_624 ?_
  refine w_callI iL_law_625 l_L_87 f_X11_unsee (c_X11_unsee G _ hM1 hC.1) rfl rfl rfl (Nat.le_of_ble_eq_true rfl) hR ⟨Nat.le_of_ble_eq_true rfl, Nat.le_of_ble_eq_true rfl⟩ ⟨rfl, rfl⟩ (by decide) (by decide) ?_
  rintro r2 μ2 ⟨rfl, hM2, hs2⟩
  exact z_icmp_eq iL_law_628 (fun _ => kk _ _ (hC1.cs hs2) hM2) (fun q => absurd rfl q)
theorem lw_c17 {G : qG} {X : qX} {b L i : Nat} {xs : Nat → Int32} {μ : Mem} {S : St} (hX : LwX G X b L xs) (hL : L ≤ 320) (hi : i + 5 ≤ L) (hC : CAt μ S) (hM : MAt μ S) (kk : ∀ (μ9 : Mem) (S9 : St), CAt μ9 S9 → MAt μ9 S9 → Zw G X μ9 963 [some (.ref b), some (.ref (qB G + 0)), some (.ref (qB G + 140)), some (.int (nI i))] []) : Zw G X μ 633 [some (.ref b), some (.ref (qB G + 0)), some (.ref (qB G + 140)), some (.int (nI i))] [] := by
  have hR : qR X = room_1 := hX.1
  refine z_aload_1 iL_law_633 ?_
  refine z_aload_0 iL_law_634 ?_
  refine z_iload_3 iL_law_635 ?_
  refine z_iconst iL_law_636 kI_1 ?_
  refine z_iaddN iL_law_637 ?_
  refine w_sld hX iL_law_638 (by omega) hL ?_
  refine w_callI iL_law_639 l_L_88 f_X10_masks (c_X10_masks G _ hC _) rfl rfl rfl (Nat.le_of_ble_eq_true rfl) hR ⟨Nat.le_of_ble_eq_true rfl, Nat.le_of_ble_eq_true rfl⟩ ⟨rfl, rfl⟩ (by decide) (by decide) ?_
  rintro r1 μ1 ⟨rfl, hC1, hs1⟩
  have hM1 := hM.ms hs1
  refine z_aload_2 iL_law_642 ?_
  refine z_aload_0 iL_law_643 ?_
  refine z_iload_3 iL_law_644 ?_
  refine z_iconst iL_law_645 kI_1 ?_
  refine z_iaddN iL_law_646 ?_
  refine w_sld hX iL_law_647 (by omega) hL ?_
  refine w_callI iL_law_648 l_L_91 f_X11_masks (c_X11_masks G _ hM1 hC.1 _) rfl rfl rfl (Nat.le_of_ble_eq_true rfl) hR ⟨Nat.le_of_ble_eq_true rfl, Nat.le_of_ble_eq_true rfl⟩ ⟨rfl, rfl⟩ (by decide) (by decide) ?_
  rintro r2 μ2 ⟨rfl, hM2, hs2⟩
  exact z_icmp_eq iL_law_651 (fun _ => kk _ _ (hC1.cs hs2) hM2) (fun q => absurd rfl q)
theorem lw_c18 {G : qG} {X : qX} {b L i : Nat} {xs : Nat → Int32} {μ : Mem} {S : St} (hX : LwX G X b L xs) (hL : L ≤ 320) (hi : i + 5 ≤ L) (hC : CAt μ S) (hM : MAt μ S) (kk : ∀ (μ9 : Mem) (S9 : St), CAt μ9 S9 → MAt μ9 S9 → Zw G X μ9 963 [some (.ref b), some (.ref (qB G + 0)), some (.ref (qB G + 140)), some (.int (nI i))] []) : Zw G X μ 656 [some (.ref b), some (.ref (qB G + 0)), some (.ref (qB G + 140)), some (.int (nI i))] [] := by
  have hR : qR X = room_1 := hX.1
  refine z_aload_1 iL_law_656 ?_
  refine z_aload_0 iL_law_657 ?_
  refine z_iload_3 iL_law_658 ?_
  refine z_iconst iL_law_659 kI_1 ?_
  refine z_iaddN iL_law_660 ?_
  refine w_sld hX iL_law_661 (by omega) hL ?_
  refine z_aload_0 iL_law_662 ?_
  refine z_iload_3 iL_law_663 ?_
  refine z_iconst iL_law_664 kI_2 ?_
  refine z_iaddN iL_law_665 ?_
  refine w_sld hX iL_law_666 (by omega) hL ?_
  refine w_bool iL_law_667 iL_law_670 iL_law_671 iL_law_674 ?_
  refine w_callI iL_law_675 l_L_92 f_X10_share (c_X10_share G _ hC _ _) rfl rfl rfl (Nat.le_of_ble_eq_true rfl) hR ⟨Nat.le_of_ble_eq_true rfl, Nat.le_of_ble_eq_true rfl⟩ ⟨rfl, rfl⟩ (by decide) (by decide) ?_
  rintro r1 μ1 ⟨rfl, hC1, hs1⟩
  have hM1 := hM.ms hs1
  refine z_aload_2 iL_law_678 ?_
  refine z_aload_0 iL_law_679 ?_
  refine z_iload_3 iL_law_680 ?_
  refine z_iconst iL_law_681 kI_1 ?_
  refine z_iaddN iL_law_682 ?_
  refine w_sld hX iL_law_683 (by omega) hL ?_
  refine z_aload_0 iL_law_684 ?_
  refine z_iload_3 iL_law_685 ?_
  refine z_iconst iL_law_686 kI_2 ?_
  refine z_iaddN iL_law_687 ?_
  refine w_sld hX iL_law_688 (by omega) hL ?_
  refine w_bool iL_law_689 iL_law_692 iL_law_693 iL_law_696 ?_
  refine w_callI iL_law_697 l_L_96 f_X11_share (c_X11_share G _ hM1 hC.1 _ _) rfl rfl rfl (Nat.le_of_ble_eq_true rfl) hR ⟨Nat.le_of_ble_eq_true rfl, Nat.le_of_ble_eq_true rfl⟩ ⟨rfl, rfl⟩ (by decide) (by decide) ?_
  rintro r2 μ2 ⟨rfl, hM2, hs2⟩
  exact z_icmp_eq iL_law_700 (fun _ => kk _ _ (hC1.cs hs2) hM2) (fun q => absurd rfl q)
theorem lw_c19 {G : qG} {X : qX} {b L i : Nat} {xs : Nat → Int32} {μ : Mem} {S : St} (hX : LwX G X b L xs) (hL : L ≤ 320) (hi : i + 5 ≤ L) (hC : CAt μ S) (hM : MAt μ S) (kk : ∀ (μ9 : Mem) (S9 : St), CAt μ9 S9 → MAt μ9 S9 → Zw G X μ9 963 [some (.ref b), some (.ref (qB G + 0)), some (.ref (qB G + 140)), some (.int (nI i))] []) : Zw G X μ 705 [some (.ref b), some (.ref (qB G + 0)), some (.ref (qB G + 140)), some (.int (nI i))] [] := by
  have hR : qR X = room_1 := hX.1
  refine z_aload_1 iL_law_705 ?_
  refine z_aload_0 iL_law_706 ?_
  refine z_iload_3 iL_law_707 ?_
  refine z_iconst iL_law_708 kI_1 ?_
  refine z_iaddN iL_law_709 ?_
  refine w_sld hX iL_law_710 (by omega) hL ?_
  refine z_aload_0 iL_law_711 ?_
  refine z_iload_3 iL_law_712 ?_
  refine z_iconst iL_law_713 kI_2 ?_
  refine z_iaddN iL_law_714 ?_
  refine w_sld hX iL_law_715 (by omega) hL ?_
  refine z_aload_0 iL_law_716 ?_
  refine z_iload_3 iL_law_717 ?_
  refine z_iconst iL_law_718 kI_3 ?_
  refine z_iaddN iL_law_719 ?_
  refine w_sld hX iL_law_720 (by omega) hL ?_
  refine w_callI iL_law_721 l_L_97 f_X10_rests (c_X10_rests G _ hC _ _ _) rfl rfl rfl (Nat.le_of_ble_eq_true rfl) hR ⟨Nat.le_of_ble_eq_true rfl, Nat.le_of_ble_eq_true rfl⟩ ⟨rfl, rfl⟩ (by decide) (by decide) ?_
  rintro r1 μ1 ⟨rfl, hC1, hs1⟩
  have hM1 := hM.ms hs1
  refine z_aload_2 iL_law_724 ?_
  refine z_aload_0 iL_law_725 ?_
  refine z_iload_3 iL_law_726 ?_
  refine z_iconst iL_law_727 kI_1 ?_
  refine z_iaddN iL_law_728 ?_
  refine w_sld hX iL_law_729 (by omega) hL ?_
  refine z_aload_0 iL_law_730 ?_
  refine z_iload_3 iL_law_731 ?_
  refine z_iconst iL_law_732 kI_2 ?_
  refine z_iaddN iL_law_733 ?_
  refine w_sld hX iL_law_734 (by omega) hL ?_
  refine z_aload_0 iL_law_735 ?_
  refine z_iload_3 iL_law_736 ?_
  refine z_iconst iL_law_737 kI_3 ?_
  refine z_iaddN iL_law_738 ?_
  refine w_sld hX iL_law_739 (by omega) hL ?_
  refine w_callI iL_law_740 l_L_100 f_X11_rests (c_X11_rests G _ hM1 hC.1 _ _ _) rfl rfl rfl (Nat.le_of_ble_eq_true rfl) hR ⟨Nat.le_of_ble_eq_true rfl, Nat.le_of_ble_eq_true rfl⟩ ⟨rfl, rfl⟩ (by decide) (by decide) ?_
  rintro r2 μ2 ⟨rfl, hM2, hs2⟩
  exact z_icmp_eq iL_law_743 (fun _ => kk _ _ (hC1.cs hs2) hM2) (fun q => absurd rfl q)
theorem lw_c20 {G : qG} {X : qX} {b L i : Nat} {xs : Nat → Int32} {μ : Mem} {S : St} (hX : LwX G X b L xs) (hL : L ≤ 320) (hi : i + 5 ≤ L) (hC : CAt μ S) (hM : MAt μ S) (kk : ∀ (μ9 : Mem) (S9 : St), CAt μ9 S9 → MAt μ9 S9 → Zw G X μ9 963 [some (.ref b), some (.ref (qB G + 0)), some (.ref (qB G + 140)), some (.int (nI i))] []) : Zw G X μ 748 [some (.ref b), some (.ref (qB G + 0)), some (.ref (qB G + 140)), some (.int (nI i))] [] := by
  have hR : qR X = room_1 := hX.1
  refine z_aload_1 iL_law_748 ?_
  refine z_aload_0 iL_law_749 ?_
  refine z_iload_3 iL_law_750 ?_
  refine z_iconst iL_law_751 kI_1 ?_
  refine z_iaddN iL_law_752 ?_
  refine w_sld hX iL_law_753 (by omega) hL ?_
  refine z_aload_0 iL_law_754 ?_
  refine z_iload_3 iL_law_755 ?_
  refine z_iconst iL_law_756 kI_2 ?_
  refine z_iaddN iL_law_757 ?_
  refine w_sld hX iL_law_758 (by omega) hL ?_
  refine z_aload_0 iL_law_759 ?_
  refine z_iload_3 iL_law_760 ?_
  refine z_iconst iL_law_761 kI_3 ?_
  refine z_iaddN iL_law_762 ?_
  refine w_sld hX iL_law_763 (by omega) hL ?_
  refine z_aload_0 iL_law_764 ?_
  refine z_iload_3 iL_law_765 ?_
  refine z_iconst iL_law_766 kI_4 ?_
  refine z_iaddN iL_law_767 ?_
  refine w_sld hX iL_law_768 (by omega) hL ?_
  refine w_bool iL_law_769 iL_law_772 iL_law_773 iL_law_776 ?_
  refine w_callI iL_law_777 l_L_101 f_X10_clouded (c_X10_clouded G _ hC _ _ _ _) rfl rfl rfl (Nat.le_of_ble_eq_true rfl) hR ⟨Nat.le_of_ble_eq_true rfl, Nat.le_of_ble_eq_true rfl⟩ ⟨rfl, rfl⟩ (by decide) (by decide) ?_
  rintro r1 μ1 ⟨rfl, hC1, hs1⟩
  have hM1 := hM.ms hs1
  refine z_aload_2 iL_law_780 ?_
  refine z_aload_0 iL_law_781 ?_
  refine z_iload_3 iL_law_782 ?_
  refine z_iconst iL_law_783 kI_1 ?_
  refine z_iaddN iL_law_784 ?_
  refine w_sld hX iL_law_785 (by omega) hL ?_
  refine z_aload_0 iL_law_786 ?_
  refine z_iload_3 iL_law_787 ?_
  refine z_iconst iL_law_788 kI_2 ?_
  refine z_iaddN iL_law_789 ?_
  refine w_sld hX iL_law_790 (by omega) hL ?_
  refine z_aload_0 iL_law_791 ?_
  refine z_iload_3 iL_law_792 ?_
  refine z_iconst iL_law_793 kI_3 ?_
  refine z_iaddN iL_law_794 ?_
  refine w_sld hX iL_law_795 (by omega) hL ?_
  refine z_aload_0 iL_law_796 ?_
  refine z_iload_3 iL_law_797 ?_
  refine z_iconst iL_law_798 kI_4 ?_
  refine z_iaddN iL_law_799 ?_
  refine w_sld hX iL_law_800 (by omega) hL ?_
  refine w_bool iL_law_801 iL_law_804 iL_law_805 iL_law_808 ?_
  refine w_callI iL_law_809 l_L_105 f_X11_clouded (c_X11_clouded G _ hM1 hC.1 _ _ _ _) rfl rfl rfl (Nat.le_of_ble_eq_true rfl) hR ⟨Nat.le_of_ble_eq_true rfl, Nat.le_of_ble_eq_true rfl⟩ ⟨rfl, rfl⟩ (by decide) (by decide) ?_
  rintro r2 μ2 ⟨rfl, hM2, hs2⟩
  exact z_icmp_eq iL_law_812 (fun _ => kk _ _ (hC1.cs hs2) hM2) (fun q => absurd rfl q)
theorem lw_c21 {G : qG} {X : qX} {b L i : Nat} {xs : Nat → Int32} {μ : Mem} {S : St} (hX : LwX G X b L xs) (hL : L ≤ 320) (hi : i + 5 ≤ L) (hC : CAt μ S) (hM : MAt μ S) (kk : ∀ (μ9 : Mem) (S9 : St), CAt μ9 S9 → MAt μ9 S9 → Zw G X μ9 963 [some (.ref b), some (.ref (qB G + 0)), some (.ref (qB G + 140)), some (.int (nI i))] []) : Zw G X μ 817 [some (.ref b), some (.ref (qB G + 0)), some (.ref (qB G + 140)), some (.int (nI i))] [] := by
  have hR : qR X = room_1 := hX.1
  refine z_aload_1 iL_law_817 ?_
  refine z_aload_0 iL_law_818 ?_
  refine z_iload_3 iL_law_819 ?_
  refine z_iconst iL_law_820 kI_1 ?_
  refine z_iaddN iL_law_821 ?_
  refine w_sld hX iL_law_822 (by omega) hL ?_
  refine z_i2l iL_law_823 ?_
  refine z_bipush iL_law_824 kB_32 ?_
  refine z_lshl iL_law_826 ?_
  refine z_aload_0 iL_law_827 ?_
  refine z_iload_3 iL_law_828 ?_
  refine z_iconst iL_law_829 kI_2 ?_
  refine z_iaddN iL_law_830 ?_
  refine w_sld hX iL_law_831 (by omega) hL ?_
  refine z_i2l iL_law_832 ?_
  refine z_ldc2 iL_law_833 k_L_73 ?_
  refine z_land iL_law_836 ?_
  refine z_lor iL_law_837 ?_
  refine w_callL iL_law_838 l_L_106 f_X10_seed (c_X10_seed G _ hC _) rfl rfl rfl (Nat.le_of_ble_eq_true rfl) hR ⟨Nat.le_of_ble_eq_true rfl, Nat.le_of_ble_eq_true rfl⟩ ⟨rfl, rfl⟩ (by decide) (by decide) ?_
  rintro r1 μ1 ⟨rfl, hC1, hs1⟩
  have hM1 := hM.ms hs1
  refine z_aload_2 iL_law_841 ?_
  refine z_aload_0 iL_law_842 ?_
  refine z_iload_3 iL_law_843 ?_
  refine z_iconst iL_law_844 kI_1 ?_
  refine z_iaddN iL_law_845 ?_
  refine w_sld hX iL_law_846 (by omega) hL ?_
  refine z_i2l iL_law_847 ?_
  refine z_bipush iL_law_848 kB_32 ?_
  refine z_lshl iL_law_850 ?_
  refine z_aload_0 iL_law_851 ?_
  refine z_iload_3 iL_law_852 ?_
  refine z_iconst iL_law_853 kI_2 ?_
  refine z_iaddN iL_law_854 ?_
  refine w_sld hX iL_law_855 (by omega) hL ?_
  refine z_i2l iL_law_856 ?_
  refine z_ldc2 iL_law_857 k_L_73 ?_
  refine z_land iL_law_860 ?_
  refine z_lor iL_law_861 ?_
  refine w_callL iL_law_862 l_L_110 f_X11_seed (c_X11_seed G _ hM1 _) rfl rfl rfl (Nat.le_of_ble_eq_true rfl) hR ⟨Nat.le_of_ble_eq_true rfl, Nat.le_of_ble_eq_true rfl⟩ ⟨rfl, rfl⟩ (by decide) (by decide) ?_
  rintro r2 μ2 ⟨rfl, hM2, hs2⟩
  refine z_lcmp iL_law_865 ?_
  exact z_if_eq iL_law_866 (fun _ => kk _ _ (hC1.cs hs2) hM2) (fun q => absurd (lw_cmp0 _) q)
theorem lw_c22 {G : qG} {X : qX} {b L i : Nat} {xs : Nat → Int32} {μ : Mem} {S : St} (hX : LwX G X b L xs) (hL : L ≤ 320) (hi : i + 5 ≤ L) (hC : CAt μ S) (hM : MAt μ S) (kk : ∀ (μ9 : Mem) (S9 : St), CAt μ9 S9 → MAt μ9 S9 → Zw G X μ9 963 [some (.ref b), some (.ref (qB G + 0)), some (.ref (qB G + 140)), some (.int (nI i))] []) : Zw G X μ 871 [some (.ref b), some (.ref (qB G + 0)), some (.ref (qB G + 140)), some (.int (nI i))] [] := by
  have hR : qR X = room_1 := hX.1
  refine z_aload_1 iL_law_871 ?_
  refine z_aload_0 iL_law_872 ?_
  refine z_iload_3 iL_law_873 ?_
  refine z_iconst iL_law_874 kI_1 ?_
  refine z_iaddN iL_law_875 ?_
  refine w_sld hX iL_law_876 (by omega) hL ?_
  refine w_callI iL_law_877 l_L_111 f_X10_feasts (c_X10_feasts G _ hC _) rfl rfl rfl (Nat.le_of_ble_eq_true rfl) hR ⟨Nat.le_of_ble_eq_true rfl, Nat.le_of_ble_eq_true rfl⟩ ⟨rfl, rfl⟩ (by decide) (by decide) ?_
  rintro r1 μ1 ⟨rfl, hC1, hs1⟩
  have hM1 := hM.ms hs1
  refine z_aload_2 iL_law_880 ?_
  refine z_aload_0 iL_law_881 ?_
  refine z_iload_3 iL_law_882 ?_
  refine z_iconst iL_law_883 kI_1 ?_
  refine z_iaddN iL_law_884 ?_
  refine w_sld hX iL_law_885 (by omega) hL ?_
  refine w_callI iL_law_886 l_L_114 f_X11_feasts (c_X11_feasts G _ hM1 hC.1 _) rfl rfl rfl (Nat.le_of_ble_eq_true rfl) hR ⟨Nat.le_of_ble_eq_true rfl, Nat.le_of_ble_eq_true rfl⟩ ⟨rfl, rfl⟩ (by decide) (by decide) ?_
  rintro r2 μ2 ⟨rfl, hM2, hs2⟩
  exact z_icmp_eq iL_law_889 (fun _ => kk _ _ (hC1.cs hs2) hM2) (fun q => absurd rfl q)
theorem lw_c23 {G : qG} {X : qX} {b L i : Nat} {xs : Nat → Int32} {μ : Mem} {S : St} (hX : LwX G X b L xs) (hL : L ≤ 320) (hi : i + 5 ≤ L) (hC : CAt μ S) (hM : MAt μ S) (kk : ∀ (μ9 : Mem) (S9 : St), CAt μ9 S9 → MAt μ9 S9 → Zw G X μ9 963 [some (.ref b), some (.ref (qB G + 0)), some (.ref (qB G + 140)), some (.int (nI i))] []) : Zw G X μ 894 [some (.ref b), some (.ref (qB G + 0)), some (.ref (qB G + 140)), some (.int (nI i))] [] := by
  have hR : qR X = room_1 := hX.1
  refine z_aload_1 iL_law_894 ?_
  refine z_aload_0 iL_law_895 ?_
  refine z_iload_3 iL_law_896 ?_
  refine z_iconst iL_law_897 kI_1 ?_
  refine z_iaddN iL_law_898 ?_
  refine w_sld hX iL_law_899 (by omega) hL ?_
  refine w_callI iL_law_900 l_L_115 f_X10_keep (c_X10_keep G _ hC _) rfl rfl rfl (Nat.le_of_ble_eq_true rfl) hR ⟨Nat.le_of_ble_eq_true rfl, Nat.le_of_ble_eq_true rfl⟩ ⟨rfl, rfl⟩ (by decide) (by decide) ?_
  rintro r1 μ1 ⟨rfl, hC1, hs1⟩
  have hM1 := hM.ms hs1
  refine z_aload_2 iL_law_903 ?_
  refine z_aload_0 iL_law_904 ?_
  refine z_iload_3 iL_law_905 ?_
  refine z_iconst iL_law_906 kI_1 ?_
  refine z_iaddN iL_law_907 ?_
  refine w_sld hX iL_law_908 (by omega) hL ?_
  refine w_callI iL_law_909 l_L_118 f_X11_keep (c_X11_keep G _ hM1 hC.1 _) rfl rfl rfl (Nat.le_of_ble_eq_true rfl) hR ⟨Nat.le_of_ble_eq_true rfl, Nat.le_of_ble_eq_true rfl⟩ ⟨rfl, rfl⟩ (by decide) (by decide) ?_
  rintro r2 μ2 ⟨rfl, hM2, hs2⟩
  exact z_icmp_eq iL_law_912 (fun _ => kk _ _ (hC1.cs hs2) hM2) (fun q => absurd rfl q)
theorem lw_c24 {G : qG} {X : qX} {b L i : Nat} {xs : Nat → Int32} {μ : Mem} {S : St} (hX : LwX G X b L xs) (hL : L ≤ 320) (hi : i + 5 ≤ L) (hC : CAt μ S) (hM : MAt μ S) (kk : ∀ (μ9 : Mem) (S9 : St), CAt μ9 S9 → MAt μ9 S9 → Zw G X μ9 963 [some (.ref b), some (.ref (qB G + 0)), some (.ref (qB G + 140)), some (.int (nI i))] []) : Zw G X μ 917 [some (.ref b), some (.ref (qB G + 0)), some (.ref (qB G + 140)), some (.int (nI i))] [] := by
  have hR : qR X = room_1 := hX.1
  refine z_aload_1 iL_law_917 ?_
  refine z_aload_0 iL_law_918 ?_
  refine z_iload_3 iL_law_919 ?_
  refine z_iconst iL_law_920 kI_1 ?_
  refine z_iaddN iL_law_921 ?_
  refine w_sld hX iL_law_922 (by omega) hL ?_
  refine w_callI iL_law_923 l_L_119 f_X10_again (c_X10_again G _ hC _) rfl rfl rfl (Nat.le_of_ble_eq_true rfl) hR ⟨Nat.le_of_ble_eq_true rfl, Nat.le_of_ble_eq_true rfl⟩ ⟨rfl, rfl⟩ (by decide) (by decide) ?_
  rintro r1 μ1 ⟨rfl, hC1, hs1⟩
  have hM1 := hM.ms hs1
  refine z_aload_2 iL_law_926 ?_
  refine z_aload_0 iL_law_927 ?_
  refine z_iload_3 iL_law_928 ?_
  refine z_iconst iL_law_929 kI_1 ?_
  refine z_iaddN iL_law_930 ?_
  refine w_sld hX iL_law_931 (by omega) hL ?_
  refine w_callI iL_law_932 l_L_122 f_X11_again (c_X11_again G _ hM1 hC.1 _) rfl rfl rfl (Nat.le_of_ble_eq_true rfl) hR ⟨Nat.le_of_ble_eq_true rfl, Nat.le_of_ble_eq_true rfl⟩ ⟨rfl, rfl⟩ (by decide) (by decide) ?_
  rintro r2 μ2 ⟨rfl, hM2, hs2⟩
  exact z_icmp_eq iL_law_935 (fun _ => kk _ _ (hC1.cs hs2) hM2) (fun q => absurd rfl q)
theorem lw_c25 {G : qG} {X : qX} {b L i : Nat} {xs : Nat → Int32} {μ : Mem} {S : St} (hX : LwX G X b L xs) (hL : L ≤ 320) (hi : i + 5 ≤ L) (hC : CAt μ S) (hM : MAt μ S) (kk : ∀ (μ9 : Mem) (S9 : St), CAt μ9 S9 → MAt μ9 S9 → Zw G X μ9 963 [some (.ref b), some (.ref (qB G + 0)), some (.ref (qB G + 140)), some (.int (nI i))] []) : Zw G X μ 940 [some (.ref b), some (.ref (qB G + 0)), some (.ref (qB G + 140)), some (.int (nI i))] [] := by
  have hR : qR X = room_1 := hX.1
  refine z_aload_1 iL_law_940 ?_
  refine z_aload_0 iL_law_941 ?_
  refine z_iload_3 iL_law_942 ?_
  refine z_iconst iL_law_943 kI_1 ?_
  refine z_iaddN iL_law_944 ?_
  refine w_sld hX iL_law_945 (by omega) hL ?_
  refine w_callI iL_law_946 l_L_123 f_X10_count (c_X10_count G _ hC _) rfl rfl rfl (Nat.le_of_ble_eq_true rfl) hR ⟨Nat.le_of_ble_eq_true rfl, Nat.le_of_ble_eq_true rfl⟩ ⟨rfl, rfl⟩ (by decide) (by decide) ?_
  rintro r1 μ1 ⟨rfl, hC1, hs1⟩
  have hM1 := hM.ms hs1
  refine z_aload_2 iL_law_949 ?_
  refine z_aload_0 iL_law_950 ?_
  refine z_iload_3 iL_law_951 ?_
  refine z_iconst iL_law_952 kI_1 ?_
  refine z_iaddN iL_law_953 ?_
  refine w_sld hX iL_law_954 (by omega) hL ?_
  refine w_callI iL_law_955 l_L_126 f_X11_count (c_X11_count G _ hM1 hC.1 _) rfl rfl rfl (Nat.le_of_ble_eq_true rfl) hR ⟨Nat.le_of_ble_eq_true rfl, Nat.le_of_ble_eq_true rfl⟩ ⟨rfl, rfl⟩ (by decide) (by decide) ?_
  rintro r2 μ2 ⟨rfl, hM2, hs2⟩
  exact z_icmp_eq iL_law_958 (fun _ => kk _ _ (hC1.cs hs2) hM2) (fun q => absurd rfl q)
