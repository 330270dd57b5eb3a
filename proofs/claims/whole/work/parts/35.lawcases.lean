/-! the law's cases, by program -/
set_option maxRecDepth 100000 in
set_option maxHeartbeats 4000000 in
theorem law_type {z : Zx} {L : Nat} {xs : Nat → Int32} {ad am : Nat → Nat} {σ τ : St} {x3 : Int32} {h1 h2 : Nat} {I : St → St → Prop} (K : ZK z L xs) (hSim : Sim I) (hI : I σ τ) (h1e : ad 0 = h1) (h2e : am 0 = h2) (hin : ∀ j : Nat, j < 5 → vp_in (x3 + nI j) L)
    (kk : ∀ (ad : Nat → Nat), ad 0 = h1 → ∀ σ τ, I σ τ → Wz z 1055 [(0, .ref (z_b z)), (1, .ref h1), (2, .ref h2), (3, .int x3)] [] ad am σ τ) : Wz z 160 [(0, .ref (z_b z)), (1, .ref h1), (2, .ref h2), (3, .int x3)] [] ad am σ τ := by
  obtain ⟨r, σ1, τ1, e1, e2, hI⟩ := hSim.1 (xs (nx (x3 + 1))) σ τ hI
  refine z_aload_n K dL_law_160 1 rfl ?_
  refine z_aload_n K dL_law_161 0 rfl ?_
  refine z_iload_n K dL_law_162 3 rfl ?_
  refine z_iconst (x := 1) K dL_law_163 (by decide) ?_
  refine z_iadd K dL_law_164 ?_
  refine z_sld K (hin 1 (by decide)) dL_law_165 ?_
  refine z_callS K h1e (ctX11_type e1) (cwV 1 K.ts gL_law_X11_type rfl rfl rfl hVX11_type ⟨Nat.le_of_ble_eq_true rfl, Nat.le_of_ble_eq_true rfl⟩) rfl rfl (Nat.le_of_ble_eq_true rfl) dL_law_166 ?_
  refine z_aload_n K dL_law_169 2 rfl ?_
  refine z_aload_n K dL_law_170 0 rfl ?_
  refine z_iload_n K dL_law_171 3 rfl ?_
  refine z_iconst (x := 1) K dL_law_172 (by decide) ?_
  refine z_iadd K dL_law_173 ?_
  refine z_sld K (hin 1 (by decide)) dL_law_174 ?_
  refine z_callM K h2e (ctX12_type e2) (cwV 1 K.ts gL_law_X12_type rfl rfl rfl hVX12_type ⟨Nat.le_of_ble_eq_true rfl, Nat.le_of_ble_eq_true rfl⟩) rfl rfl (Nat.le_of_ble_eq_true rfl) dL_law_175 ?_
  refine z_same (tgt := 1055) K dL_law_178 (by decide) ?_
  exact kk _ h1e σ1 τ1 hI
set_option maxRecDepth 100000 in
set_option maxHeartbeats 4000000 in
theorem law_clear {z : Zx} {L : Nat} {xs : Nat → Int32} {ad am : Nat → Nat} {σ τ : St} {x3 : Int32} {h1 h2 : Nat} {I : St → St → Prop} (K : ZK z L xs) (hSim : Sim I) (hI : I σ τ) (h1e : ad 0 = h1) (h2e : am 0 = h2) (hin : ∀ j : Nat, j < 5 → vp_in (x3 + nI j) L)
    (kk : ∀ (ad : Nat → Nat), ad 0 = h1 → ∀ σ τ, I σ τ → Wz z 1055 [(0, .ref (z_b z)), (1, .ref h1), (2, .ref h2), (3, .int x3)] [] ad am σ τ) : Wz z 183 [(0, .ref (z_b z)), (1, .ref h1), (2, .ref h2), (3, .int x3)] [] ad am σ τ := by
  obtain ⟨r, σ1, τ1, e1, e2, hI⟩ := hSim.2.1  σ τ hI
  refine z_aload_n K dL_law_183 1 rfl ?_
  refine z_callS K h1e (ctX11_clear e1) (cwV 0 K.ts gL_law_X11_clear rfl rfl rfl hVX11_clear ⟨Nat.le_of_ble_eq_true rfl, Nat.le_of_ble_eq_true rfl⟩) rfl rfl (Nat.le_of_ble_eq_true rfl) dL_law_184 ?_
  refine z_aload_n K dL_law_187 2 rfl ?_
  refine z_callM K h2e (ctX12_clear e2) (cwV 0 K.ts gL_law_X12_clear rfl rfl rfl hVX12_clear ⟨Nat.le_of_ble_eq_true rfl, Nat.le_of_ble_eq_true rfl⟩) rfl rfl (Nat.le_of_ble_eq_true rfl) dL_law_188 ?_
  refine z_same (tgt := 1055) K dL_law_191 (by decide) ?_
  exact kk _ h1e σ1 τ1 hI
set_option maxRecDepth 100000 in
set_option maxHeartbeats 4000000 in
theorem law_city {z : Zx} {L : Nat} {xs : Nat → Int32} {ad am : Nat → Nat} {σ τ : St} {x3 : Int32} {h1 h2 : Nat} {I : St → St → Prop} (K : ZK z L xs) (hSim : Sim I) (hI : I σ τ) (h1e : ad 0 = h1) (h2e : am 0 = h2) (hin : ∀ j : Nat, j < 5 → vp_in (x3 + nI j) L)
    (kk : ∀ (ad : Nat → Nat), ad 0 = h1 → ∀ σ τ, I σ τ → Wz z 1055 [(0, .ref (z_b z)), (1, .ref h1), (2, .ref h2), (3, .int x3)] [] ad am σ τ) : Wz z 196 [(0, .ref (z_b z)), (1, .ref h1), (2, .ref h2), (3, .int x3)] [] ad am σ τ := by
  obtain ⟨r, σ1, τ1, e1, e2, hI⟩ := hSim.2.2.1  σ τ hI
  refine z_aload_n K dL_law_196 1 rfl ?_
  refine z_callC K h1e (ctX11_city e1) (cwV 0 K.ts gL_law_X11_city rfl rfl rfl hVX11_city ⟨Nat.le_of_ble_eq_true rfl, Nat.le_of_ble_eq_true rfl⟩) (Nat.le_of_ble_eq_true rfl) dL_law_197 ?_
  refine z_aload_n K dL_law_200 2 rfl ?_
  refine z_callM K h2e (ctX12_city e2) (cwV 0 K.ts gL_law_X12_city rfl rfl rfl hVX12_city ⟨Nat.le_of_ble_eq_true rfl, Nat.le_of_ble_eq_true rfl⟩) rfl rfl (Nat.le_of_ble_eq_true rfl) dL_law_201 ?_
  refine z_same (tgt := 1055) K dL_law_204 (by decide) ?_
  exact kk _ (cad_0 ad r ▸ h1e) σ1 τ1 hI
set_option maxRecDepth 100000 in
set_option maxHeartbeats 4000000 in
theorem law_cell {z : Zx} {L : Nat} {xs : Nat → Int32} {ad am : Nat → Nat} {σ τ : St} {x3 : Int32} {h1 h2 : Nat} {I : St → St → Prop} (K : ZK z L xs) (hSim : Sim I) (hI : I σ τ) (h1e : ad 0 = h1) (h2e : am 0 = h2) (hin : ∀ j : Nat, j < 5 → vp_in (x3 + nI j) L)
    (kk : ∀ (ad : Nat → Nat), ad 0 = h1 → ∀ σ τ, I σ τ → Wz z 1055 [(0, .ref (z_b z)), (1, .ref h1), (2, .ref h2), (3, .int x3)] [] ad am σ τ) : Wz z 209 [(0, .ref (z_b z)), (1, .ref h1), (2, .ref h2), (3, .int x3)] [] ad am σ τ := by
  obtain ⟨r, σ1, τ1, e1, e2, hI⟩ := hSim.2.2.2.1 (xs (nx (x3 + 1))) (xs (nx (x3 + 2))) (xs (nx (x3 + 3))) σ τ hI
  refine z_aload_n K dL_law_209 1 rfl ?_
  refine z_aload_n K dL_law_210 0 rfl ?_
  refine z_iload_n K dL_law_211 3 rfl ?_
  refine z_iconst (x := 1) K dL_law_212 (by decide) ?_
  refine z_iadd K dL_law_213 ?_
  refine z_sld K (hin 1 (by decide)) dL_law_214 ?_
  refine z_aload_n K dL_law_215 0 rfl ?_
  refine z_iload_n K dL_law_216 3 rfl ?_
  refine z_iconst (x := 2) K dL_law_217 (by decide) ?_
  refine z_iadd K dL_law_218 ?_
  refine z_sld K (hin 2 (by decide)) dL_law_219 ?_
  refine z_aload_n K dL_law_220 0 rfl ?_
  refine z_iload_n K dL_law_221 3 rfl ?_
  refine z_iconst (x := 3) K dL_law_222 (by decide) ?_
  refine z_iadd K dL_law_223 ?_
  refine z_sld K (hin 3 (by decide)) dL_law_224 ?_
  refine z_callS K h1e (ctX11_cell e1) (cwV 3 K.ts gL_law_X11_cell rfl rfl rfl hVX11_cell ⟨Nat.le_of_ble_eq_true rfl, Nat.le_of_ble_eq_true rfl⟩) rfl rfl (Nat.le_of_ble_eq_true rfl) dL_law_225 ?_
  refine z_aload_n K dL_law_228 2 rfl ?_
  refine z_aload_n K dL_law_229 0 rfl ?_
  refine z_iload_n K dL_law_230 3 rfl ?_
  refine z_iconst (x := 1) K dL_law_231 (by decide) ?_
  refine z_iadd K dL_law_232 ?_
  refine z_sld K (hin 1 (by decide)) dL_law_233 ?_
  refine z_aload_n K dL_law_234 0 rfl ?_
  refine z_iload_n K dL_law_235 3 rfl ?_
  refine z_iconst (x := 2) K dL_law_236 (by decide) ?_
  refine z_iadd K dL_law_237 ?_
  refine z_sld K (hin 2 (by decide)) dL_law_238 ?_
  refine z_aload_n K dL_law_239 0 rfl ?_
  refine z_iload_n K dL_law_240 3 rfl ?_
  refine z_iconst (x := 3) K dL_law_241 (by decide) ?_
  refine z_iadd K dL_law_242 ?_
  refine z_sld K (hin 3 (by decide)) dL_law_243 ?_
  refine z_callM K h2e (ctX12_cell e2) (cwV 3 K.ts gL_law_X12_cell rfl rfl rfl hVX12_cell ⟨Nat.le_of_ble_eq_true rfl, Nat.le_of_ble_eq_true rfl⟩) rfl rfl (Nat.le_of_ble_eq_true rfl) dL_law_244 ?_
  refine z_same (tgt := 1055) K dL_law_247 (by decide) ?_
  exact kk _ h1e σ1 τ1 hI
set_option maxRecDepth 100000 in
set_option maxHeartbeats 4000000 in
theorem law_kind {z : Zx} {L : Nat} {xs : Nat → Int32} {ad am : Nat → Nat} {σ τ : St} {x3 : Int32} {h1 h2 : Nat} {I : St → St → Prop} (K : ZK z L xs) (hSim : Sim I) (hI : I σ τ) (h1e : ad 0 = h1) (h2e : am 0 = h2) (hin : ∀ j : Nat, j < 5 → vp_in (x3 + nI j) L)
    (kk : ∀ (ad : Nat → Nat), ad 0 = h1 → ∀ σ τ, I σ τ → Wz z 1055 [(0, .ref (z_b z)), (1, .ref h1), (2, .ref h2), (3, .int x3)] [] ad am σ τ) : Wz z 252 [(0, .ref (z_b z)), (1, .ref h1), (2, .ref h2), (3, .int x3)] [] ad am σ τ := by
  obtain ⟨r, σ1, τ1, e1, e2, hI⟩ := hSim.2.2.2.2.1 (xs (nx (x3 + 1))) (xs (nx (x3 + 2))) σ τ hI
  refine z_aload_n K dL_law_252 1 rfl ?_
  refine z_aload_n K dL_law_253 0 rfl ?_
  refine z_iload_n K dL_law_254 3 rfl ?_
  refine z_iconst (x := 1) K dL_law_255 (by decide) ?_
  refine z_iadd K dL_law_256 ?_
  refine z_sld K (hin 1 (by decide)) dL_law_257 ?_
  refine z_aload_n K dL_law_258 0 rfl ?_
  refine z_iload_n K dL_law_259 3 rfl ?_
  refine z_iconst (x := 2) K dL_law_260 (by decide) ?_
  refine z_iadd K dL_law_261 ?_
  refine z_sld K (hin 2 (by decide)) dL_law_262 ?_
  refine z_callS K h1e (ctX11_kind e1) (cwV 2 K.ts gL_law_X11_kind rfl rfl rfl hVX11_kind ⟨Nat.le_of_ble_eq_true rfl, Nat.le_of_ble_eq_true rfl⟩) rfl rfl (Nat.le_of_ble_eq_true rfl) dL_law_263 ?_
  refine z_aload_n K dL_law_266 2 rfl ?_
  refine z_aload_n K dL_law_267 0 rfl ?_
  refine z_iload_n K dL_law_268 3 rfl ?_
  refine z_iconst (x := 1) K dL_law_269 (by decide) ?_
  refine z_iadd K dL_law_270 ?_
  refine z_sld K (hin 1 (by decide)) dL_law_271 ?_
  refine z_aload_n K dL_law_272 0 rfl ?_
  refine z_iload_n K dL_law_273 3 rfl ?_
  refine z_iconst (x := 2) K dL_law_274 (by decide) ?_
  refine z_iadd K dL_law_275 ?_
  refine z_sld K (hin 2 (by decide)) dL_law_276 ?_
  refine z_callM K h2e (ctX12_kind e2) (cwV 2 K.ts gL_law_X12_kind rfl rfl rfl hVX12_kind ⟨Nat.le_of_ble_eq_true rfl, Nat.le_of_ble_eq_true rfl⟩) rfl rfl (Nat.le_of_ble_eq_true rfl) dL_law_277 ?_
  refine z_same (tgt := 1055) K dL_law_280 (by decide) ?_
  exact kk _ h1e σ1 τ1 hI
set_option maxRecDepth 100000 in
set_option maxHeartbeats 4000000 in
theorem law_lets {z : Zx} {L : Nat} {xs : Nat → Int32} {ad am : Nat → Nat} {σ τ : St} {x3 : Int32} {h1 h2 : Nat} {I : St → St → Prop} (K : ZK z L xs) (hSim : Sim I) (hI : I σ τ) (h1e : ad 0 = h1) (h2e : am 0 = h2) (hin : ∀ j : Nat, j < 5 → vp_in (x3 + nI j) L)
    (kk : ∀ (ad : Nat → Nat), ad 0 = h1 → ∀ σ τ, I σ τ → Wz z 1055 [(0, .ref (z_b z)), (1, .ref h1), (2, .ref h2), (3, .int x3)] [] ad am σ τ) : Wz z 285 [(0, .ref (z_b z)), (1, .ref h1), (2, .ref h2), (3, .int x3)] [] ad am σ τ := by
  obtain ⟨r, σ1, τ1, e1, e2, hI⟩ := hSim.2.2.2.2.2.1 (xs (nx (x3 + 1))) (xs (nx (x3 + 2))) (xs (nx (x3 + 3))) σ τ hI
  refine z_aload_n K dL_law_285 1 rfl ?_
  refine z_aload_n K dL_law_286 0 rfl ?_
  refine z_iload_n K dL_law_287 3 rfl ?_
  refine z_iconst (x := 1) K dL_law_288 (by decide) ?_
  refine z_iadd K dL_law_289 ?_
  refine z_sld K (hin 1 (by decide)) dL_law_290 ?_
  refine z_aload_n K dL_law_291 0 rfl ?_
  refine z_iload_n K dL_law_292 3 rfl ?_
  refine z_iconst (x := 2) K dL_law_293 (by decide) ?_
  refine z_iadd K dL_law_294 ?_
  refine z_sld K (hin 2 (by decide)) dL_law_295 ?_
  refine z_aload_n K dL_law_296 0 rfl ?_
  refine z_iload_n K dL_law_297 3 rfl ?_
  refine z_iconst (x := 3) K dL_law_298 (by decide) ?_
  refine z_iadd K dL_law_299 ?_
  refine z_sld K (hin 3 (by decide)) dL_law_300 ?_
  refine z_callS K h1e (ctX11_lets e1) (cwV 3 K.ts gL_law_X11_lets rfl rfl rfl hVX11_lets ⟨Nat.le_of_ble_eq_true rfl, Nat.le_of_ble_eq_true rfl⟩) rfl rfl (Nat.le_of_ble_eq_true rfl) dL_law_301 ?_
  refine z_aload_n K dL_law_304 2 rfl ?_
  refine z_aload_n K dL_law_305 0 rfl ?_
  refine z_iload_n K dL_law_306 3 rfl ?_
  refine z_iconst (x := 1) K dL_law_307 (by decide) ?_
  refine z_iadd K dL_law_308 ?_
  refine z_sld K (hin 1 (by decide)) dL_law_309 ?_
  refine z_aload_n K dL_law_310 0 rfl ?_
  refine z_iload_n K dL_law_311 3 rfl ?_
  refine z_iconst (x := 2) K dL_law_312 (by decide) ?_
  refine z_iadd K dL_law_313 ?_
  refine z_sld K (hin 2 (by decide)) dL_law_314 ?_
  refine z_aload_n K dL_law_315 0 rfl ?_
  refine z_iload_n K dL_law_316 3 rfl ?_
  refine z_iconst (x := 3) K dL_law_317 (by decide) ?_
  refine z_iadd K dL_law_318 ?_
  refine z_sld K (hin 3 (by decide)) dL_law_319 ?_
  refine z_callM K h2e (ctX12_lets e2) (cwV 3 K.ts gL_law_X12_lets rfl rfl rfl hVX12_lets ⟨Nat.le_of_ble_eq_true rfl, Nat.le_of_ble_eq_true rfl⟩) rfl rfl (Nat.le_of_ble_eq_true rfl) dL_law_320 ?_
  refine z_same (tgt := 1055) K dL_law_323 (by decide) ?_
  exact kk _ h1e σ1 τ1 hI
set_option maxRecDepth 100000 in
set_option maxHeartbeats 4000000 in
theorem law_sets {z : Zx} {L : Nat} {xs : Nat → Int32} {ad am : Nat → Nat} {σ τ : St} {x3 : Int32} {h1 h2 : Nat} {I : St → St → Prop} (K : ZK z L xs) (hSim : Sim I) (hI : I σ τ) (h1e : ad 0 = h1) (h2e : am 0 = h2) (hin : ∀ j : Nat, j < 5 → vp_in (x3 + nI j) L)
    (kk : ∀ (ad : Nat → Nat), ad 0 = h1 → ∀ σ τ, I σ τ → Wz z 1055 [(0, .ref (z_b z)), (1, .ref h1), (2, .ref h2), (3, .int x3)] [] ad am σ τ) : Wz z 328 [(0, .ref (z_b z)), (1, .ref h1), (2, .ref h2), (3, .int x3)] [] ad am σ τ := by
  obtain ⟨r, σ1, τ1, e1, e2, hI⟩ := hSim.2.2.2.2.2.2.1 (xs (nx (x3 + 1))) (xs (nx (x3 + 2))) (xs (nx (x3 + 3))) σ τ hI
  refine z_aload_n K dL_law_328 1 rfl ?_
  refine z_aload_n K dL_law_329 0 rfl ?_
  refine z_iload_n K dL_law_330 3 rfl ?_
  refine z_iconst (x := 1) K dL_law_331 (by decide) ?_
  refine z_iadd K dL_law_332 ?_
  refine z_sld K (hin 1 (by decide)) dL_law_333 ?_
  refine z_aload_n K dL_law_334 0 rfl ?_
  refine z_iload_n K dL_law_335 3 rfl ?_
  refine z_iconst (x := 2) K dL_law_336 (by decide) ?_
  refine z_iadd K dL_law_337 ?_
  refine z_sld K (hin 2 (by decide)) dL_law_338 ?_
  refine z_aload_n K dL_law_339 0 rfl ?_
  refine z_iload_n K dL_law_340 3 rfl ?_
  refine z_iconst (x := 3) K dL_law_341 (by decide) ?_
  refine z_iadd K dL_law_342 ?_
  refine z_sld K (hin 3 (by decide)) dL_law_343 ?_
  refine z_callS K h1e (ctX11_sets e1) (cwV 3 K.ts gL_law_X11_sets rfl rfl rfl hVX11_sets ⟨Nat.le_of_ble_eq_true rfl, Nat.le_of_ble_eq_true rfl⟩) rfl rfl (Nat.le_of_ble_eq_true rfl) dL_law_344 ?_
  refine z_aload_n K dL_law_347 2 rfl ?_
  refine z_aload_n K dL_law_348 0 rfl ?_
  refine z_iload_n K dL_law_349 3 rfl ?_
  refine z_iconst (x := 1) K dL_law_350 (by decide) ?_
  refine z_iadd K dL_law_351 ?_
  refine z_sld K (hin 1 (by decide)) dL_law_352 ?_
  refine z_aload_n K dL_law_353 0 rfl ?_
  refine z_iload_n K dL_law_354 3 rfl ?_
  refine z_iconst (x := 2) K dL_law_355 (by decide) ?_
  refine z_iadd K dL_law_356 ?_
  refine z_sld K (hin 2 (by decide)) dL_law_357 ?_
  refine z_aload_n K dL_law_358 0 rfl ?_
  refine z_iload_n K dL_law_359 3 rfl ?_
  refine z_iconst (x := 3) K dL_law_360 (by decide) ?_
  refine z_iadd K dL_law_361 ?_
  refine z_sld K (hin 3 (by decide)) dL_law_362 ?_
  refine z_callM K h2e (ctX12_sets e2) (cwV 3 K.ts gL_law_X12_sets rfl rfl rfl hVX12_sets ⟨Nat.le_of_ble_eq_true rfl, Nat.le_of_ble_eq_true rfl⟩) rfl rfl (Nat.le_of_ble_eq_true rfl) dL_law_363 ?_
  refine z_same (tgt := 1055) K dL_law_366 (by decide) ?_
  exact kk _ h1e σ1 τ1 hI
set_option maxRecDepth 100000 in
set_option maxHeartbeats 4000000 in
theorem law_takes {z : Zx} {L : Nat} {xs : Nat → Int32} {ad am : Nat → Nat} {σ τ : St} {x3 : Int32} {h1 h2 : Nat} {I : St → St → Prop} (K : ZK z L xs) (hSim : Sim I) (hI : I σ τ) (h1e : ad 0 = h1) (h2e : am 0 = h2) (hin : ∀ j : Nat, j < 5 → vp_in (x3 + nI j) L)
    (kk : ∀ (ad : Nat → Nat), ad 0 = h1 → ∀ σ τ, I σ τ → Wz z 1055 [(0, .ref (z_b z)), (1, .ref h1), (2, .ref h2), (3, .int x3)] [] ad am σ τ) : Wz z 371 [(0, .ref (z_b z)), (1, .ref h1), (2, .ref h2), (3, .int x3)] [] ad am σ τ := by
  obtain ⟨r, σ1, τ1, e1, e2, hI⟩ := hSim.2.2.2.2.2.2.2.1 (xs (nx (x3 + 1))) (xs (nx (x3 + 2))) (xs (nx (x3 + 3))) σ τ hI
  refine z_aload_n K dL_law_371 1 rfl ?_
  refine z_aload_n K dL_law_372 0 rfl ?_
  refine z_iload_n K dL_law_373 3 rfl ?_
  refine z_iconst (x := 1) K dL_law_374 (by decide) ?_
  refine z_iadd K dL_law_375 ?_
  refine z_sld K (hin 1 (by decide)) dL_law_376 ?_
  refine z_aload_n K dL_law_377 0 rfl ?_
  refine z_iload_n K dL_law_378 3 rfl ?_
  refine z_iconst (x := 2) K dL_law_379 (by decide) ?_
  refine z_iadd K dL_law_380 ?_
  refine z_sld K (hin 2 (by decide)) dL_law_381 ?_
  refine z_aload_n K dL_law_382 0 rfl ?_
  refine z_iload_n K dL_law_383 3 rfl ?_
  refine z_iconst (x := 3) K dL_law_384 (by decide) ?_
  refine z_iadd K dL_law_385 ?_
  refine z_sld K (hin 3 (by decide)) dL_law_386 ?_
  refine z_callS K h1e (ctX11_takes e1) (cwV 3 K.ts gL_law_X11_takes rfl rfl rfl hVX11_takes ⟨Nat.le_of_ble_eq_true rfl, Nat.le_of_ble_eq_true rfl⟩) rfl rfl (Nat.le_of_ble_eq_true rfl) dL_law_387 ?_
  refine z_aload_n K dL_law_390 2 rfl ?_
  refine z_aload_n K dL_law_391 0 rfl ?_
  refine z_iload_n K dL_law_392 3 rfl ?_
  refine z_iconst (x := 1) K dL_law_393 (by decide) ?_
  refine z_iadd K dL_law_394 ?_
  refine z_sld K (hin 1 (by decide)) dL_law_395 ?_
  refine z_aload_n K dL_law_396 0 rfl ?_
  refine z_iload_n K dL_law_397 3 rfl ?_
  refine z_iconst (x := 2) K dL_law_398 (by decide) ?_
  refine z_iadd K dL_law_399 ?_
  refine z_sld K (hin 2 (by decide)) dL_law_400 ?_
  refine z_aload_n K dL_law_401 0 rfl ?_
  refine z_iload_n K dL_law_402 3 rfl ?_
  refine z_iconst (x := 3) K dL_law_403 (by decide) ?_
  refine z_iadd K dL_law_404 ?_
  refine z_sld K (hin 3 (by decide)) dL_law_405 ?_
  refine z_callM K h2e (ctX12_takes e2) (cwV 3 K.ts gL_law_X12_takes rfl rfl rfl hVX12_takes ⟨Nat.le_of_ble_eq_true rfl, Nat.le_of_ble_eq_true rfl⟩) rfl rfl (Nat.le_of_ble_eq_true rfl) dL_law_406 ?_
  refine z_same (tgt := 1055) K dL_law_409 (by decide) ?_
  exact kk _ h1e σ1 τ1 hI
set_option maxRecDepth 100000 in
set_option maxHeartbeats 4000000 in
theorem law_cobble {z : Zx} {L : Nat} {xs : Nat → Int32} {ad am : Nat → Nat} {σ τ : St} {x3 : Int32} {h1 h2 : Nat} {I : St → St → Prop} (K : ZK z L xs) (hSim : Sim I) (hI : I σ τ) (h1e : ad 0 = h1) (h2e : am 0 = h2) (hin : ∀ j : Nat, j < 5 → vp_in (x3 + nI j) L)
    (kk : ∀ (ad : Nat → Nat), ad 0 = h1 → ∀ σ τ, I σ τ → Wz z 1055 [(0, .ref (z_b z)), (1, .ref h1), (2, .ref h2), (3, .int x3)] [] ad am σ τ) : Wz z 414 [(0, .ref (z_b z)), (1, .ref h1), (2, .ref h2), (3, .int x3)] [] ad am σ τ := by
  obtain ⟨r, σ1, τ1, e1, e2, hI⟩ := hSim.2.2.2.2.2.2.2.2.1 (xs (nx (x3 + 1))) (xs (nx (x3 + 2))) (xs (nx (x3 + 3))) σ τ hI
  refine z_aload_n K dL_law_414 1 rfl ?_
  refine z_aload_n K dL_law_415 0 rfl ?_
  refine z_iload_n K dL_law_416 3 rfl ?_
  refine z_iconst (x := 1) K dL_law_417 (by decide) ?_
  refine z_iadd K dL_law_418 ?_
  refine z_sld K (hin 1 (by decide)) dL_law_419 ?_
  refine z_aload_n K dL_law_420 0 rfl ?_
  refine z_iload_n K dL_law_421 3 rfl ?_
  refine z_iconst (x := 2) K dL_law_422 (by decide) ?_
  refine z_iadd K dL_law_423 ?_
  refine z_sld K (hin 2 (by decide)) dL_law_424 ?_
  refine z_aload_n K dL_law_425 0 rfl ?_
  refine z_iload_n K dL_law_426 3 rfl ?_
  refine z_iconst (x := 3) K dL_law_427 (by decide) ?_
  refine z_iadd K dL_law_428 ?_
  refine z_sld K (hin 3 (by decide)) dL_law_429 ?_
  refine z_callS K h1e (ctX11_cobble e1) (cwV 3 K.ts gL_law_X11_cobble rfl rfl rfl hVX11_cobble ⟨Nat.le_of_ble_eq_true rfl, Nat.le_of_ble_eq_true rfl⟩) rfl rfl (Nat.le_of_ble_eq_true rfl) dL_law_430 ?_
  refine z_aload_n K dL_law_433 2 rfl ?_
  refine z_aload_n K dL_law_434 0 rfl ?_
  refine z_iload_n K dL_law_435 3 rfl ?_
  refine z_iconst (x := 1) K dL_law_436 (by decide) ?_
  refine z_iadd K dL_law_437 ?_
  refine z_sld K (hin 1 (by decide)) dL_law_438 ?_
  refine z_aload_n K dL_law_439 0 rfl ?_
  refine z_iload_n K dL_law_440 3 rfl ?_
  refine z_iconst (x := 2) K dL_law_441 (by decide) ?_
  refine z_iadd K dL_law_442 ?_
  refine z_sld K (hin 2 (by decide)) dL_law_443 ?_
  refine z_aload_n K dL_law_444 0 rfl ?_
  refine z_iload_n K dL_law_445 3 rfl ?_
  refine z_iconst (x := 3) K dL_law_446 (by decide) ?_
  refine z_iadd K dL_law_447 ?_
  refine z_sld K (hin 3 (by decide)) dL_law_448 ?_
  refine z_callM K h2e (ctX12_cobble e2) (cwV 3 K.ts gL_law_X12_cobble rfl rfl rfl hVX12_cobble ⟨Nat.le_of_ble_eq_true rfl, Nat.le_of_ble_eq_true rfl⟩) rfl rfl (Nat.le_of_ble_eq_true rfl) dL_law_449 ?_
  refine z_same (tgt := 1055) K dL_law_452 (by decide) ?_
  exact kk _ h1e σ1 τ1 hI
set_option maxRecDepth 100000 in
set_option maxHeartbeats 4000000 in
theorem law_sweep {z : Zx} {L : Nat} {xs : Nat → Int32} {ad am : Nat → Nat} {σ τ : St} {x3 : Int32} {h1 h2 : Nat} {I : St → St → Prop} (K : ZK z L xs) (hSim : Sim I) (hI : I σ τ) (h1e : ad 0 = h1) (h2e : am 0 = h2) (hin : ∀ j : Nat, j < 5 → vp_in (x3 + nI j) L)
    (kk : ∀ (ad : Nat → Nat), ad 0 = h1 → ∀ σ τ, I σ τ → Wz z 1055 [(0, .ref (z_b z)), (1, .ref h1), (2, .ref h2), (3, .int x3)] [] ad am σ τ) : Wz z 457 [(0, .ref (z_b z)), (1, .ref h1), (2, .ref h2), (3, .int x3)] [] ad am σ τ := by
  obtain ⟨r, σ1, τ1, e1, e2, hI⟩ := hSim.2.2.2.2.2.2.2.2.2.1 (xs (nx (x3 + 1))) (xs (nx (x3 + 2))) σ τ hI
  refine z_aload_n K dL_law_457 1 rfl ?_
  refine z_aload_n K dL_law_458 0 rfl ?_
  refine z_iload_n K dL_law_459 3 rfl ?_
  refine z_iconst (x := 1) K dL_law_460 (by decide) ?_
  refine z_iadd K dL_law_461 ?_
  refine z_sld K (hin 1 (by decide)) dL_law_462 ?_
  refine z_aload_n K dL_law_463 0 rfl ?_
  refine z_iload_n K dL_law_464 3 rfl ?_
  refine z_iconst (x := 2) K dL_law_465 (by decide) ?_
  refine z_iadd K dL_law_466 ?_
  refine z_sld K (hin 2 (by decide)) dL_law_467 ?_
  refine z_callS K h1e (ctX11_sweep e1) (cwV 2 K.ts gL_law_X11_sweep rfl rfl rfl hVX11_sweep ⟨Nat.le_of_ble_eq_true rfl, Nat.le_of_ble_eq_true rfl⟩) rfl rfl (Nat.le_of_ble_eq_true rfl) dL_law_468 ?_
  refine z_aload_n K dL_law_471 2 rfl ?_
  refine z_aload_n K dL_law_472 0 rfl ?_
  refine z_iload_n K dL_law_473 3 rfl ?_
  refine z_iconst (x := 1) K dL_law_474 (by decide) ?_
  refine z_iadd K dL_law_475 ?_
  refine z_sld K (hin 1 (by decide)) dL_law_476 ?_
  refine z_aload_n K dL_law_477 0 rfl ?_
  refine z_iload_n K dL_law_478 3 rfl ?_
  refine z_iconst (x := 2) K dL_law_479 (by decide) ?_
  refine z_iadd K dL_law_480 ?_
  refine z_sld K (hin 2 (by decide)) dL_law_481 ?_
  refine z_callM K h2e (ctX12_sweep e2) (cwV 2 K.ts gL_law_X12_sweep rfl rfl rfl hVX12_sweep ⟨Nat.le_of_ble_eq_true rfl, Nat.le_of_ble_eq_true rfl⟩) rfl rfl (Nat.le_of_ble_eq_true rfl) dL_law_482 ?_
  refine z_same (tgt := 1055) K dL_law_485 (by decide) ?_
  exact kk _ h1e σ1 τ1 hI
set_option maxRecDepth 100000 in
set_option maxHeartbeats 4000000 in
theorem law_undo {z : Zx} {L : Nat} {xs : Nat → Int32} {ad am : Nat → Nat} {σ τ : St} {x3 : Int32} {h1 h2 : Nat} {I : St → St → Prop} (K : ZK z L xs) (hSim : Sim I) (hI : I σ τ) (h1e : ad 0 = h1) (h2e : am 0 = h2) (hin : ∀ j : Nat, j < 5 → vp_in (x3 + nI j) L)
    (kk : ∀ (ad : Nat → Nat), ad 0 = h1 → ∀ σ τ, I σ τ → Wz z 1055 [(0, .ref (z_b z)), (1, .ref h1), (2, .ref h2), (3, .int x3)] [] ad am σ τ) : Wz z 490 [(0, .ref (z_b z)), (1, .ref h1), (2, .ref h2), (3, .int x3)] [] ad am σ τ := by
  obtain ⟨r, σ1, τ1, e1, e2, hI⟩ := hSim.2.2.2.2.2.2.2.2.2.2.1  σ τ hI
  refine z_aload_n K dL_law_490 1 rfl ?_
  refine z_callS K h1e (ctX11_undo e1) (cwV 0 K.ts gL_law_X11_undo rfl rfl rfl hVX11_undo ⟨Nat.le_of_ble_eq_true rfl, Nat.le_of_ble_eq_true rfl⟩) rfl rfl (Nat.le_of_ble_eq_true rfl) dL_law_491 ?_
  refine z_aload_n K dL_law_494 2 rfl ?_
  refine z_callM K h2e (ctX12_undo e2) (cwV 0 K.ts gL_law_X12_undo rfl rfl rfl hVX12_undo ⟨Nat.le_of_ble_eq_true rfl, Nat.le_of_ble_eq_true rfl⟩) rfl rfl (Nat.le_of_ble_eq_true rfl) dL_law_495 ?_
  refine z_same (tgt := 1055) K dL_law_498 (by decide) ?_
  exact kk _ h1e σ1 τ1 hI
set_option maxRecDepth 100000 in
set_option maxHeartbeats 4000000 in
theorem law_now {z : Zx} {L : Nat} {xs : Nat → Int32} {ad am : Nat → Nat} {σ τ : St} {x3 : Int32} {h1 h2 : Nat} {I : St → St → Prop} (K : ZK z L xs) (hSim : Sim I) (hI : I σ τ) (h1e : ad 0 = h1) (h2e : am 0 = h2) (hin : ∀ j : Nat, j < 5 → vp_in (x3 + nI j) L)
    (kk : ∀ (ad : Nat → Nat), ad 0 = h1 → ∀ σ τ, I σ τ → Wz z 1055 [(0, .ref (z_b z)), (1, .ref h1), (2, .ref h2), (3, .int x3)] [] ad am σ τ) : Wz z 503 [(0, .ref (z_b z)), (1, .ref h1), (2, .ref h2), (3, .int x3)] [] ad am σ τ := by
  obtain ⟨r, σ1, τ1, e1, e2, hI⟩ := hSim.2.2.2.2.2.2.2.2.2.2.2.1 (xs (nx (x3 + 1))) σ τ hI
  refine z_aload_n K dL_law_503 1 rfl ?_
  refine z_aload_n K dL_law_504 0 rfl ?_
  refine z_iload_n K dL_law_505 3 rfl ?_
  refine z_iconst (x := 1) K dL_law_506 (by decide) ?_
  refine z_iadd K dL_law_507 ?_
  refine z_sld K (hin 1 (by decide)) dL_law_508 ?_
  refine z_callS K h1e (ctX11_now e1) (cwV 1 K.ts gL_law_X11_now rfl rfl rfl hVX11_now ⟨Nat.le_of_ble_eq_true rfl, Nat.le_of_ble_eq_true rfl⟩) rfl rfl (Nat.le_of_ble_eq_true rfl) dL_law_509 ?_
  refine z_aload_n K dL_law_512 2 rfl ?_
  refine z_aload_n K dL_law_513 0 rfl ?_
  refine z_iload_n K dL_law_514 3 rfl ?_
  refine z_iconst (x := 1) K dL_law_515 (by decide) ?_
  refine z_iadd K dL_law_516 ?_
  refine z_sld K (hin 1 (by decide)) dL_law_517 ?_
  refine z_callM K h2e (ctX12_now e2) (cwV 1 K.ts gL_law_X12_now rfl rfl rfl hVX12_now ⟨Nat.le_of_ble_eq_true rfl, Nat.le_of_ble_eq_true rfl⟩) rfl rfl (Nat.le_of_ble_eq_true rfl) dL_law_518 ?_
  refine z_same (tgt := 1055) K dL_law_521 (by decide) ?_
  exact kk _ h1e σ1 τ1 hI
set_option maxRecDepth 100000 in
set_option maxHeartbeats 4000000 in
theorem law_end {z : Zx} {L : Nat} {xs : Nat → Int32} {ad am : Nat → Nat} {σ τ : St} {x3 : Int32} {h1 h2 : Nat} {I : St → St → Prop} (K : ZK z L xs) (hSim : Sim I) (hI : I σ τ) (h1e : ad 0 = h1) (h2e : am 0 = h2) (hin : ∀ j : Nat, j < 5 → vp_in (x3 + nI j) L)
    (kk : ∀ (ad : Nat → Nat), ad 0 = h1 → ∀ σ τ, I σ τ → Wz z 1055 [(0, .ref (z_b z)), (1, .ref h1), (2, .ref h2), (3, .int x3)] [] ad am σ τ) : Wz z 526 [(0, .ref (z_b z)), (1, .ref h1), (2, .ref h2), (3, .int x3)] [] ad am σ τ := by
  obtain ⟨r, σ1, τ1, e1, e2, hI⟩ := hSim.2.2.2.2.2.2.2.2.2.2.2.2.1 (xs (nx (x3 + 1))) (xs (nx (x3 + 2))) (xs (nx (x3 + 3))) (xs (nx (x3 + 4))) σ τ hI
  refine z_aload_n K dL_law_526 1 rfl ?_
  refine z_aload_n K dL_law_527 0 rfl ?_
  refine z_iload_n K dL_law_528 3 rfl ?_
  refine z_iconst (x := 1) K dL_law_529 (by decide) ?_
  refine z_iadd K dL_law_530 ?_
  refine z_sld K (hin 1 (by decide)) dL_law_531 ?_
  refine z_aload_n K dL_law_532 0 rfl ?_
  refine z_iload_n K dL_law_533 3 rfl ?_
  refine z_iconst (x := 2) K dL_law_534 (by decide) ?_
  refine z_iadd K dL_law_535 ?_
  refine z_sld K (hin 2 (by decide)) dL_law_536 ?_
  refine z_aload_n K dL_law_537 0 rfl ?_
  refine z_iload_n K dL_law_538 3 rfl ?_
  refine z_iconst (x := 3) K dL_law_539 (by decide) ?_
  refine z_iadd K dL_law_540 ?_
  refine z_sld K (hin 3 (by decide)) dL_law_541 ?_
  refine z_aload_n K dL_law_542 0 rfl ?_
  refine z_iload_n K dL_law_543 3 rfl ?_
  refine z_iconst (x := 4) K dL_law_544 (by decide) ?_
  refine z_iadd K dL_law_545 ?_
  refine z_sld K (hin 4 (by decide)) dL_law_546 ?_
  refine z_callS K h1e (ctX11_end e1) (cwV 4 K.ts gL_law_X11_end rfl rfl rfl hVX11_end ⟨Nat.le_of_ble_eq_true rfl, Nat.le_of_ble_eq_true rfl⟩) rfl rfl (Nat.le_of_ble_eq_true rfl) dL_law_547 ?_
  refine z_aload_n K dL_law_550 2 rfl ?_
  refine z_aload_n K dL_law_551 0 rfl ?_
  refine z_iload_n K dL_law_552 3 rfl ?_
  refine z_iconst (x := 1) K dL_law_553 (by decide) ?_
  refine z_iadd K dL_law_554 ?_
  refine z_sld K (hin 1 (by decide)) dL_law_555 ?_
  refine z_aload_n K dL_law_556 0 rfl ?_
  refine z_iload_n K dL_law_557 3 rfl ?_
  refine z_iconst (x := 2) K dL_law_558 (by decide) ?_
  refine z_iadd K dL_law_559 ?_
  refine z_sld K (hin 2 (by decide)) dL_law_560 ?_
  refine z_aload_n K dL_law_561 0 rfl ?_
  refine z_iload_n K dL_law_562 3 rfl ?_
  refine z_iconst (x := 3) K dL_law_563 (by decide) ?_
  refine z_iadd K dL_law_564 ?_
  refine z_sld K (hin 3 (by decide)) dL_law_565 ?_
  refine z_aload_n K dL_law_566 0 rfl ?_
  refine z_iload_n K dL_law_567 3 rfl ?_
  refine z_iconst (x := 4) K dL_law_568 (by decide) ?_
  refine z_iadd K dL_law_569 ?_
  refine z_sld K (hin 4 (by decide)) dL_law_570 ?_
  refine z_callM K h2e (ctX12_end e2) (cwV 4 K.ts gL_law_X12_end rfl rfl rfl hVX12_end ⟨Nat.le_of_ble_eq_true rfl, Nat.le_of_ble_eq_true rfl⟩) rfl rfl (Nat.le_of_ble_eq_true rfl) dL_law_571 ?_
  refine z_same (tgt := 1055) K dL_law_574 (by decide) ?_
  exact kk _ h1e σ1 τ1 hI
set_option maxRecDepth 100000 in
set_option maxHeartbeats 4000000 in
theorem law_doors {z : Zx} {L : Nat} {xs : Nat → Int32} {ad am : Nat → Nat} {σ τ : St} {x3 : Int32} {h1 h2 : Nat} {I : St → St → Prop} (K : ZK z L xs) (hSim : Sim I) (hI : I σ τ) (h1e : ad 0 = h1) (h2e : am 0 = h2) (hin : ∀ j : Nat, j < 5 → vp_in (x3 + nI j) L)
    (kk : ∀ (ad : Nat → Nat), ad 0 = h1 → ∀ σ τ, I σ τ → Wz z 1055 [(0, .ref (z_b z)), (1, .ref h1), (2, .ref h2), (3, .int x3)] [] ad am σ τ) : Wz z 579 [(0, .ref (z_b z)), (1, .ref h1), (2, .ref h2), (3, .int x3)] [] ad am σ τ := by
  obtain ⟨r, σ1, τ1, e1, e2, hI⟩ := hSim.2.2.2.2.2.2.2.2.2.2.2.2.2.1 (xs (nx (x3 + 1))) (xs (nx (x3 + 2))) (xs (nx (x3 + 3))) σ τ hI
  refine z_aload_n K dL_law_579 1 rfl ?_
  refine z_aload_n K dL_law_580 0 rfl ?_
  refine z_iload_n K dL_law_581 3 rfl ?_
  refine z_iconst (x := 1) K dL_law_582 (by decide) ?_
  refine z_iadd K dL_law_583 ?_
  refine z_sld K (hin 1 (by decide)) dL_law_584 ?_
  refine z_aload_n K dL_law_585 0 rfl ?_
  refine z_iload_n K dL_law_586 3 rfl ?_
  refine z_iconst (x := 2) K dL_law_587 (by decide) ?_
  refine z_iadd K dL_law_588 ?_
  refine z_sld K (hin 2 (by decide)) dL_law_589 ?_
  refine z_aload_n K dL_law_590 0 rfl ?_
  refine z_iload_n K dL_law_591 3 rfl ?_
  refine z_iconst (x := 3) K dL_law_592 (by decide) ?_
  refine z_iadd K dL_law_593 ?_
  refine z_sld K (hin 3 (by decide)) dL_law_594 ?_
  refine z_callS K h1e (ctX11_doors e1) (cwV 3 K.ts gL_law_X11_doors rfl rfl rfl hVX11_doors ⟨Nat.le_of_ble_eq_true rfl, Nat.le_of_ble_eq_true rfl⟩) rfl rfl (Nat.le_of_ble_eq_true rfl) dL_law_595 ?_
  refine z_aload_n K dL_law_598 2 rfl ?_
  refine z_aload_n K dL_law_599 0 rfl ?_
  refine z_iload_n K dL_law_600 3 rfl ?_
  refine z_iconst (x := 1) K dL_law_601 (by decide) ?_
  refine z_iadd K dL_law_602 ?_
  refine z_sld K (hin 1 (by decide)) dL_law_603 ?_
  refine z_aload_n K dL_law_604 0 rfl ?_
  refine z_iload_n K dL_law_605 3 rfl ?_
  refine z_iconst (x := 2) K dL_law_606 (by decide) ?_
  refine z_iadd K dL_law_607 ?_
  refine z_sld K (hin 2 (by decide)) dL_law_608 ?_
  refine z_aload_n K dL_law_609 0 rfl ?_
  refine z_iload_n K dL_law_610 3 rfl ?_
  refine z_iconst (x := 3) K dL_law_611 (by decide) ?_
  refine z_iadd K dL_law_612 ?_
  refine z_sld K (hin 3 (by decide)) dL_law_613 ?_
  refine z_callM K h2e (ctX12_doors e2) (cwV 3 K.ts gL_law_X12_doors rfl rfl rfl hVX12_doors ⟨Nat.le_of_ble_eq_true rfl, Nat.le_of_ble_eq_true rfl⟩) rfl rfl (Nat.le_of_ble_eq_true rfl) dL_law_614 ?_
  refine z_same (tgt := 1055) K dL_law_617 (by decide) ?_
  exact kk _ h1e σ1 τ1 hI
set_option maxRecDepth 100000 in
set_option maxHeartbeats 4000000 in
theorem law_planks {z : Zx} {L : Nat} {xs : Nat → Int32} {ad am : Nat → Nat} {σ τ : St} {x3 : Int32} {h1 h2 : Nat} {I : St → St → Prop} (K : ZK z L xs) (hSim : Sim I) (hI : I σ τ) (h1e : ad 0 = h1) (h2e : am 0 = h2) (hin : ∀ j : Nat, j < 5 → vp_in (x3 + nI j) L)
    (kk : ∀ (ad : Nat → Nat), ad 0 = h1 → ∀ σ τ, I σ τ → Wz z 1055 [(0, .ref (z_b z)), (1, .ref h1), (2, .ref h2), (3, .int x3)] [] ad am σ τ) : Wz z 622 [(0, .ref (z_b z)), (1, .ref h1), (2, .ref h2), (3, .int x3)] [] ad am σ τ := by
  obtain ⟨r, σ1, τ1, e1, e2, hI⟩ := hSim.2.2.2.2.2.2.2.2.2.2.2.2.2.2.1 (xs (nx (x3 + 1))) (xs (nx (x3 + 2))) (xs (nx (x3 + 3))) (xs (nx (x3 + 4))) σ τ hI
  refine z_aload_n K dL_law_622 1 rfl ?_
  refine z_aload_n K dL_law_623 0 rfl ?_
  refine z_iload_n K dL_law_624 3 rfl ?_
  refine z_iconst (x := 1) K dL_law_625 (by decide) ?_
  refine z_iadd K dL_law_626 ?_
  refine z_sld K (hin 1 (by decide)) dL_law_627 ?_
  refine z_aload_n K dL_law_628 0 rfl ?_
  refine z_iload_n K dL_law_629 3 rfl ?_
  refine z_iconst (x := 2) K dL_law_630 (by decide) ?_
  refine z_iadd K dL_law_631 ?_
  refine z_sld K (hin 2 (by decide)) dL_law_632 ?_
  refine z_aload_n K dL_law_633 0 rfl ?_
  refine z_iload_n K dL_law_634 3 rfl ?_
  refine z_iconst (x := 3) K dL_law_635 (by decide) ?_
  refine z_iadd K dL_law_636 ?_
  refine z_sld K (hin 3 (by decide)) dL_law_637 ?_
  refine z_aload_n K dL_law_638 0 rfl ?_
  refine z_iload_n K dL_law_639 3 rfl ?_
  refine z_iconst (x := 4) K dL_law_640 (by decide) ?_
  refine z_iadd K dL_law_641 ?_
  refine z_sld K (hin 4 (by decide)) dL_law_642 ?_
  refine z_callS K h1e (ctX11_planks e1) (cwV 4 K.ts gL_law_X11_planks rfl rfl rfl hVX11_planks ⟨Nat.le_of_ble_eq_true rfl, Nat.le_of_ble_eq_true rfl⟩) rfl rfl (Nat.le_of_ble_eq_true rfl) dL_law_643 ?_
  refine z_aload_n K dL_law_646 2 rfl ?_
  refine z_aload_n K dL_law_647 0 rfl ?_
  refine z_iload_n K dL_law_648 3 rfl ?_
  refine z_iconst (x := 1) K dL_law_649 (by decide) ?_
  refine z_iadd K dL_law_650 ?_
  refine z_sld K (hin 1 (by decide)) dL_law_651 ?_
  refine z_aload_n K dL_law_652 0 rfl ?_
  refine z_iload_n K dL_law_653 3 rfl ?_
  refine z_iconst (x := 2) K dL_law_654 (by decide) ?_
  refine z_iadd K dL_law_655 ?_
  refine z_sld K (hin 2 (by decide)) dL_law_656 ?_
  refine z_aload_n K dL_law_657 0 rfl ?_
  refine z_iload_n K dL_law_658 3 rfl ?_
  refine z_iconst (x := 3) K dL_law_659 (by decide) ?_
  refine z_iadd K dL_law_660 ?_
  refine z_sld K (hin 3 (by decide)) dL_law_661 ?_
  refine z_aload_n K dL_law_662 0 rfl ?_
  refine z_iload_n K dL_law_663 3 rfl ?_
  refine z_iconst (x := 4) K dL_law_664 (by decide) ?_
  refine z_iadd K dL_law_665 ?_
  refine z_sld K (hin 4 (by decide)) dL_law_666 ?_
  refine z_callM K h2e (ctX12_planks e2) (cwV 4 K.ts gL_law_X12_planks rfl rfl rfl hVX12_planks ⟨Nat.le_of_ble_eq_true rfl, Nat.le_of_ble_eq_true rfl⟩) rfl rfl (Nat.le_of_ble_eq_true rfl) dL_law_667 ?_
  refine z_same (tgt := 1055) K dL_law_670 (by decide) ?_
  exact kk _ h1e σ1 τ1 hI
set_option maxRecDepth 100000 in
set_option maxHeartbeats 4000000 in
theorem law_paved {z : Zx} {L : Nat} {xs : Nat → Int32} {ad am : Nat → Nat} {σ τ : St} {x3 : Int32} {h1 h2 : Nat} {I : St → St → Prop} (K : ZK z L xs) (hSim : Sim I) (hI : I σ τ) (h1e : ad 0 = h1) (h2e : am 0 = h2) (hin : ∀ j : Nat, j < 5 → vp_in (x3 + nI j) L)
    (kk : ∀ (ad : Nat → Nat), ad 0 = h1 → ∀ σ τ, I σ τ → Wz z 1055 [(0, .ref (z_b z)), (1, .ref h1), (2, .ref h2), (3, .int x3)] [] ad am σ τ) : Wz z 675 [(0, .ref (z_b z)), (1, .ref h1), (2, .ref h2), (3, .int x3)] [] ad am σ τ := by
  obtain ⟨r, σ1, τ1, e1, e2, hI⟩ := hSim.2.2.2.2.2.2.2.2.2.2.2.2.2.2.2.1 (xs (nx (x3 + 1))) (xs (nx (x3 + 2))) (xs (nx (x3 + 3))) (xs (nx (x3 + 4))) σ τ hI
  refine z_aload_n K dL_law_675 1 rfl ?_
  refine z_aload_n K dL_law_676 0 rfl ?_
  refine z_iload_n K dL_law_677 3 rfl ?_
  refine z_iconst (x := 1) K dL_law_678 (by decide) ?_
  refine z_iadd K dL_law_679 ?_
  refine z_sld K (hin 1 (by decide)) dL_law_680 ?_
  refine z_aload_n K dL_law_681 0 rfl ?_
  refine z_iload_n K dL_law_682 3 rfl ?_
  refine z_iconst (x := 2) K dL_law_683 (by decide) ?_
  refine z_iadd K dL_law_684 ?_
  refine z_sld K (hin 2 (by decide)) dL_law_685 ?_
  refine z_aload_n K dL_law_686 0 rfl ?_
  refine z_iload_n K dL_law_687 3 rfl ?_
  refine z_iconst (x := 3) K dL_law_688 (by decide) ?_
  refine z_iadd K dL_law_689 ?_
  refine z_sld K (hin 3 (by decide)) dL_law_690 ?_
  refine z_aload_n K dL_law_691 0 rfl ?_
  refine z_iload_n K dL_law_692 3 rfl ?_
  refine z_iconst (x := 4) K dL_law_693 (by decide) ?_
  refine z_iadd K dL_law_694 ?_
  refine z_sld K (hin 4 (by decide)) dL_law_695 ?_
  refine z_callS K h1e (ctX11_paved e1) (cwV 4 K.ts gL_law_X11_paved rfl rfl rfl hVX11_paved ⟨Nat.le_of_ble_eq_true rfl, Nat.le_of_ble_eq_true rfl⟩) rfl rfl (Nat.le_of_ble_eq_true rfl) dL_law_696 ?_
  refine z_aload_n K dL_law_699 2 rfl ?_
  refine z_aload_n K dL_law_700 0 rfl ?_
  refine z_iload_n K dL_law_701 3 rfl ?_
  refine z_iconst (x := 1) K dL_law_702 (by decide) ?_
  refine z_iadd K dL_law_703 ?_
  refine z_sld K (hin 1 (by decide)) dL_law_704 ?_
  refine z_aload_n K dL_law_705 0 rfl ?_
  refine z_iload_n K dL_law_706 3 rfl ?_
  refine z_iconst (x := 2) K dL_law_707 (by decide) ?_
  refine z_iadd K dL_law_708 ?_
  refine z_sld K (hin 2 (by decide)) dL_law_709 ?_
  refine z_aload_n K dL_law_710 0 rfl ?_
  refine z_iload_n K dL_law_711 3 rfl ?_
  refine z_iconst (x := 3) K dL_law_712 (by decide) ?_
  refine z_iadd K dL_law_713 ?_
  refine z_sld K (hin 3 (by decide)) dL_law_714 ?_
  refine z_aload_n K dL_law_715 0 rfl ?_
  refine z_iload_n K dL_law_716 3 rfl ?_
  refine z_iconst (x := 4) K dL_law_717 (by decide) ?_
  refine z_iadd K dL_law_718 ?_
  refine z_sld K (hin 4 (by decide)) dL_law_719 ?_
  refine z_callM K h2e (ctX12_paved e2) (cwV 4 K.ts gL_law_X12_paved rfl rfl rfl hVX12_paved ⟨Nat.le_of_ble_eq_true rfl, Nat.le_of_ble_eq_true rfl⟩) rfl rfl (Nat.le_of_ble_eq_true rfl) dL_law_720 ?_
  refine z_same (tgt := 1055) K dL_law_723 (by decide) ?_
  exact kk _ h1e σ1 τ1 hI
set_option maxRecDepth 100000 in
set_option maxHeartbeats 4000000 in
theorem law_rain {z : Zx} {L : Nat} {xs : Nat → Int32} {ad am : Nat → Nat} {σ τ : St} {x3 : Int32} {h1 h2 : Nat} {I : St → St → Prop} (K : ZK z L xs) (hSim : Sim I) (hI : I σ τ) (h1e : ad 0 = h1) (h2e : am 0 = h2) (hin : ∀ j : Nat, j < 5 → vp_in (x3 + nI j) L)
    (kk : ∀ (ad : Nat → Nat), ad 0 = h1 → ∀ σ τ, I σ τ → Wz z 1055 [(0, .ref (z_b z)), (1, .ref h1), (2, .ref h2), (3, .int x3)] [] ad am σ τ) : Wz z 728 [(0, .ref (z_b z)), (1, .ref h1), (2, .ref h2), (3, .int x3)] [] ad am σ τ := by
  obtain ⟨r, σ1, τ1, e1, e2, hI⟩ := hSim.2.2.2.2.2.2.2.2.2.2.2.2.2.2.2.2.1 (xs (nx (x3 + 1))) σ τ hI
  refine z_aload_n K dL_law_728 1 rfl ?_
  refine z_aload_n K dL_law_729 0 rfl ?_
  refine z_iload_n K dL_law_730 3 rfl ?_
  refine z_iconst (x := 1) K dL_law_731 (by decide) ?_
  refine z_iadd K dL_law_732 ?_
  refine z_sld K (hin 1 (by decide)) dL_law_733 ?_
  refine z_callS K h1e (ctX11_rain e1) (cwV 1 K.ts gL_law_X11_rain rfl rfl rfl hVX11_rain ⟨Nat.le_of_ble_eq_true rfl, Nat.le_of_ble_eq_true rfl⟩) rfl rfl (Nat.le_of_ble_eq_true rfl) dL_law_734 ?_
  refine z_aload_n K dL_law_737 2 rfl ?_
  refine z_aload_n K dL_law_738 0 rfl ?_
  refine z_iload_n K dL_law_739 3 rfl ?_
  refine z_iconst (x := 1) K dL_law_740 (by decide) ?_
  refine z_iadd K dL_law_741 ?_
  refine z_sld K (hin 1 (by decide)) dL_law_742 ?_
  refine z_callM K h2e (ctX12_rain e2) (cwV 1 K.ts gL_law_X12_rain rfl rfl rfl hVX12_rain ⟨Nat.le_of_ble_eq_true rfl, Nat.le_of_ble_eq_true rfl⟩) rfl rfl (Nat.le_of_ble_eq_true rfl) dL_law_743 ?_
  refine z_same (tgt := 1055) K dL_law_746 (by decide) ?_
  exact kk _ h1e σ1 τ1 hI
set_option maxRecDepth 100000 in
set_option maxHeartbeats 4000000 in
theorem law_feet {z : Zx} {L : Nat} {xs : Nat → Int32} {ad am : Nat → Nat} {σ τ : St} {x3 : Int32} {h1 h2 : Nat} {I : St → St → Prop} (K : ZK z L xs) (hSim : Sim I) (hI : I σ τ) (h1e : ad 0 = h1) (h2e : am 0 = h2) (hin : ∀ j : Nat, j < 5 → vp_in (x3 + nI j) L)
    (kk : ∀ (ad : Nat → Nat), ad 0 = h1 → ∀ σ τ, I σ τ → Wz z 1055 [(0, .ref (z_b z)), (1, .ref h1), (2, .ref h2), (3, .int x3)] [] ad am σ τ) : Wz z 751 [(0, .ref (z_b z)), (1, .ref h1), (2, .ref h2), (3, .int x3)] [] ad am σ τ := by
  obtain ⟨r, σ1, τ1, e1, e2, hI⟩ := hSim.2.2.2.2.2.2.2.2.2.2.2.2.2.2.2.2.2.1 (xs (nx (x3 + 1))) (xs (nx (x3 + 2))) (xs (nx (x3 + 3))) (xs (nx (x3 + 4))) σ τ hI
  refine z_aload_n K dL_law_751 1 rfl ?_
  refine z_aload_n K dL_law_752 0 rfl ?_
  refine z_iload_n K dL_law_753 3 rfl ?_
  refine z_iconst (x := 1) K dL_law_754 (by decide) ?_
  refine z_iadd K dL_law_755 ?_
  refine z_sld K (hin 1 (by decide)) dL_law_756 ?_
  refine z_aload_n K dL_law_757 0 rfl ?_
  refine z_iload_n K dL_law_758 3 rfl ?_
  refine z_iconst (x := 2) K dL_law_759 (by decide) ?_
  refine z_iadd K dL_law_760 ?_
  refine z_sld K (hin 2 (by decide)) dL_law_761 ?_
  refine z_aload_n K dL_law_762 0 rfl ?_
  refine z_iload_n K dL_law_763 3 rfl ?_
  refine z_iconst (x := 3) K dL_law_764 (by decide) ?_
  refine z_iadd K dL_law_765 ?_
  refine z_sld K (hin 3 (by decide)) dL_law_766 ?_
  refine z_aload_n K dL_law_767 0 rfl ?_
  refine z_iload_n K dL_law_768 3 rfl ?_
  refine z_iconst (x := 4) K dL_law_769 (by decide) ?_
  refine z_iadd K dL_law_770 ?_
  refine z_sld K (hin 4 (by decide)) dL_law_771 ?_
  refine z_callS K h1e (ctX11_feet e1) (cwV 4 K.ts gL_law_X11_feet rfl rfl rfl hVX11_feet ⟨Nat.le_of_ble_eq_true rfl, Nat.le_of_ble_eq_true rfl⟩) rfl rfl (Nat.le_of_ble_eq_true rfl) dL_law_772 ?_
  refine z_aload_n K dL_law_775 2 rfl ?_
  refine z_aload_n K dL_law_776 0 rfl ?_
  refine z_iload_n K dL_law_777 3 rfl ?_
  refine z_iconst (x := 1) K dL_law_778 (by decide) ?_
  refine z_iadd K dL_law_779 ?_
  refine z_sld K (hin 1 (by decide)) dL_law_780 ?_
  refine z_aload_n K dL_law_781 0 rfl ?_
  refine z_iload_n K dL_law_782 3 rfl ?_
  refine z_iconst (x := 2) K dL_law_783 (by decide) ?_
  refine z_iadd K dL_law_784 ?_
  refine z_sld K (hin 2 (by decide)) dL_law_785 ?_
  refine z_aload_n K dL_law_786 0 rfl ?_
  refine z_iload_n K dL_law_787 3 rfl ?_
  refine z_iconst (x := 3) K dL_law_788 (by decide) ?_
  refine z_iadd K dL_law_789 ?_
  refine z_sld K (hin 3 (by decide)) dL_law_790 ?_
  refine z_aload_n K dL_law_791 0 rfl ?_
  refine z_iload_n K dL_law_792 3 rfl ?_
  refine z_iconst (x := 4) K dL_law_793 (by decide) ?_
  refine z_iadd K dL_law_794 ?_
  refine z_sld K (hin 4 (by decide)) dL_law_795 ?_
  refine z_callM K h2e (ctX12_feet e2) (cwV 4 K.ts gL_law_X12_feet rfl rfl rfl hVX12_feet ⟨Nat.le_of_ble_eq_true rfl, Nat.le_of_ble_eq_true rfl⟩) rfl rfl (Nat.le_of_ble_eq_true rfl) dL_law_796 ?_
  refine z_same (tgt := 1055) K dL_law_799 (by decide) ?_
  exact kk _ h1e σ1 τ1 hI
set_option maxRecDepth 100000 in
set_option maxHeartbeats 4000000 in
theorem law_apart {z : Zx} {L : Nat} {xs : Nat → Int32} {ad am : Nat → Nat} {σ τ : St} {x3 : Int32} {h1 h2 : Nat} {I : St → St → Prop} (K : ZK z L xs) (hSim : Sim I) (hI : I σ τ) (h1e : ad 0 = h1) (h2e : am 0 = h2) (hin : ∀ j : Nat, j < 5 → vp_in (x3 + nI j) L)
    (kk : ∀ (ad : Nat → Nat), ad 0 = h1 → ∀ σ τ, I σ τ → Wz z 1055 [(0, .ref (z_b z)), (1, .ref h1), (2, .ref h2), (3, .int x3)] [] ad am σ τ) : Wz z 804 [(0, .ref (z_b z)), (1, .ref h1), (2, .ref h2), (3, .int x3)] [] ad am σ τ := by
  obtain ⟨r, σ1, τ1, e1, e2, hI⟩ := hSim.2.2.2.2.2.2.2.2.2.2.2.2.2.2.2.2.2.2.1 (xs (nx (x3 + 1))) (xs (nx (x3 + 2))) σ τ hI
  refine z_aload_n K dL_law_804 1 rfl ?_
  refine z_aload_n K dL_law_805 0 rfl ?_
  refine z_iload_n K dL_law_806 3 rfl ?_
  refine z_iconst (x := 1) K dL_law_807 (by decide) ?_
  refine z_iadd K dL_law_808 ?_
  refine z_sld K (hin 1 (by decide)) dL_law_809 ?_
  refine z_aload_n K dL_law_810 0 rfl ?_
  refine z_iload_n K dL_law_811 3 rfl ?_
  refine z_iconst (x := 2) K dL_law_812 (by decide) ?_
  refine z_iadd K dL_law_813 ?_
  refine z_sld K (hin 2 (by decide)) dL_law_814 ?_
  refine z_callS K h1e (ctX11_apart e1) (cwV 2 K.ts gL_law_X11_apart rfl rfl rfl hVX11_apart ⟨Nat.le_of_ble_eq_true rfl, Nat.le_of_ble_eq_true rfl⟩) rfl rfl (Nat.le_of_ble_eq_true rfl) dL_law_815 ?_
  refine z_aload_n K dL_law_818 2 rfl ?_
  refine z_aload_n K dL_law_819 0 rfl ?_
  refine z_iload_n K dL_law_820 3 rfl ?_
  refine z_iconst (x := 1) K dL_law_821 (by decide) ?_
  refine z_iadd K dL_law_822 ?_
  refine z_sld K (hin 1 (by decide)) dL_law_823 ?_
  refine z_aload_n K dL_law_824 0 rfl ?_
  refine z_iload_n K dL_law_825 3 rfl ?_
  refine z_iconst (x := 2) K dL_law_826 (by decide) ?_
  refine z_iadd K dL_law_827 ?_
  refine z_sld K (hin 2 (by decide)) dL_law_828 ?_
  refine z_callM K h2e (ctX12_apart e2) (cwV 2 K.ts gL_law_X12_apart rfl rfl rfl hVX12_apart ⟨Nat.le_of_ble_eq_true rfl, Nat.le_of_ble_eq_true rfl⟩) rfl rfl (Nat.le_of_ble_eq_true rfl) dL_law_829 ?_
  refine z_same (tgt := 1055) K dL_law_832 (by decide) ?_
  exact kk _ h1e σ1 τ1 hI
set_option maxRecDepth 100000 in
set_option maxHeartbeats 4000000 in
theorem law_rolls {z : Zx} {L : Nat} {xs : Nat → Int32} {ad am : Nat → Nat} {σ τ : St} {x3 : Int32} {h1 h2 : Nat} {I : St → St → Prop} (K : ZK z L xs) (hSim : Sim I) (hI : I σ τ) (h1e : ad 0 = h1) (h2e : am 0 = h2) (hin : ∀ j : Nat, j < 5 → vp_in (x3 + nI j) L)
    (kk : ∀ (ad : Nat → Nat), ad 0 = h1 → ∀ σ τ, I σ τ → Wz z 1055 [(0, .ref (z_b z)), (1, .ref h1), (2, .ref h2), (3, .int x3)] [] ad am σ τ) : Wz z 837 [(0, .ref (z_b z)), (1, .ref h1), (2, .ref h2), (3, .int x3)] [] ad am σ τ := by
  obtain ⟨r, σ1, τ1, e1, e2, hI⟩ := hSim.2.2.2.2.2.2.2.2.2.2.2.2.2.2.2.2.2.2.2.1  σ τ hI
  refine z_aload_n K dL_law_837 1 rfl ?_
  refine z_callS K h1e (ctX11_rolls e1) (cwV 0 K.ts gL_law_X11_rolls rfl rfl rfl hVX11_rolls ⟨Nat.le_of_ble_eq_true rfl, Nat.le_of_ble_eq_true rfl⟩) rfl rfl (Nat.le_of_ble_eq_true rfl) dL_law_838 ?_
  refine z_aload_n K dL_law_841 2 rfl ?_
  refine z_callM K h2e (ctX12_rolls e2) (cwV 0 K.ts gL_law_X12_rolls rfl rfl rfl hVX12_rolls ⟨Nat.le_of_ble_eq_true rfl, Nat.le_of_ble_eq_true rfl⟩) rfl rfl (Nat.le_of_ble_eq_true rfl) dL_law_842 ?_
  refine z_same (tgt := 1055) K dL_law_845 (by decide) ?_
  exact kk _ h1e σ1 τ1 hI
set_option maxRecDepth 100000 in
set_option maxHeartbeats 4000000 in
theorem law_saw {z : Zx} {L : Nat} {xs : Nat → Int32} {ad am : Nat → Nat} {σ τ : St} {x3 : Int32} {h1 h2 : Nat} {I : St → St → Prop} (K : ZK z L xs) (hSim : Sim I) (hI : I σ τ) (h1e : ad 0 = h1) (h2e : am 0 = h2) (hin : ∀ j : Nat, j < 5 → vp_in (x3 + nI j) L)
    (kk : ∀ (ad : Nat → Nat), ad 0 = h1 → ∀ σ τ, I σ τ → Wz z 1055 [(0, .ref (z_b z)), (1, .ref h1), (2, .ref h2), (3, .int x3)] [] ad am σ τ) : Wz z 850 [(0, .ref (z_b z)), (1, .ref h1), (2, .ref h2), (3, .int x3)] [] ad am σ τ := by
  obtain ⟨r, σ1, τ1, e1, e2, hI⟩ := hSim.2.2.2.2.2.2.2.2.2.2.2.2.2.2.2.2.2.2.2.2.1 (xs (nx (x3 + 1))) (xs (nx (x3 + 2))) (xs (nx (x3 + 3))) σ τ hI
  refine z_aload_n K dL_law_850 1 rfl ?_
  refine z_aload_n K dL_law_851 0 rfl ?_
  refine z_iload_n K dL_law_852 3 rfl ?_
  refine z_iconst (x := 1) K dL_law_853 (by decide) ?_
  refine z_iadd K dL_law_854 ?_
  refine z_sld K (hin 1 (by decide)) dL_law_855 ?_
  refine z_aload_n K dL_law_856 0 rfl ?_
  refine z_iload_n K dL_law_857 3 rfl ?_
  refine z_iconst (x := 2) K dL_law_858 (by decide) ?_
  refine z_iadd K dL_law_859 ?_
  refine z_sld K (hin 2 (by decide)) dL_law_860 ?_
  refine z_aload_n K dL_law_861 0 rfl ?_
  refine z_iload_n K dL_law_862 3 rfl ?_
  refine z_iconst (x := 3) K dL_law_863 (by decide) ?_
  refine z_iadd K dL_law_864 ?_
  refine z_sld K (hin 3 (by decide)) dL_law_865 ?_
  refine z_callS K h1e (ctX11_saw e1) (cwV 3 K.ts gL_law_X11_saw rfl rfl rfl hVX11_saw ⟨Nat.le_of_ble_eq_true rfl, Nat.le_of_ble_eq_true rfl⟩) rfl rfl (Nat.le_of_ble_eq_true rfl) dL_law_866 ?_
  refine z_aload_n K dL_law_869 2 rfl ?_
  refine z_aload_n K dL_law_870 0 rfl ?_
  refine z_iload_n K dL_law_871 3 rfl ?_
  refine z_iconst (x := 1) K dL_law_872 (by decide) ?_
  refine z_iadd K dL_law_873 ?_
  refine z_sld K (hin 1 (by decide)) dL_law_874 ?_
  refine z_aload_n K dL_law_875 0 rfl ?_
  refine z_iload_n K dL_law_876 3 rfl ?_
  refine z_iconst (x := 2) K dL_law_877 (by decide) ?_
  refine z_iadd K dL_law_878 ?_
  refine z_sld K (hin 2 (by decide)) dL_law_879 ?_
  refine z_aload_n K dL_law_880 0 rfl ?_
  refine z_iload_n K dL_law_881 3 rfl ?_
  refine z_iconst (x := 3) K dL_law_882 (by decide) ?_
  refine z_iadd K dL_law_883 ?_
  refine z_sld K (hin 3 (by decide)) dL_law_884 ?_
  refine z_callM K h2e (ctX12_saw e2) (cwV 3 K.ts gL_law_X12_saw rfl rfl rfl hVX12_saw ⟨Nat.le_of_ble_eq_true rfl, Nat.le_of_ble_eq_true rfl⟩) rfl rfl (Nat.le_of_ble_eq_true rfl) dL_law_885 ?_
  refine z_same (tgt := 1055) K dL_law_888 (by decide) ?_
  exact kk _ h1e σ1 τ1 hI
set_option maxRecDepth 100000 in
set_option maxHeartbeats 4000000 in
theorem law_forget {z : Zx} {L : Nat} {xs : Nat → Int32} {ad am : Nat → Nat} {σ τ : St} {x3 : Int32} {h1 h2 : Nat} {I : St → St → Prop} (K : ZK z L xs) (hSim : Sim I) (hI : I σ τ) (h1e : ad 0 = h1) (h2e : am 0 = h2) (hin : ∀ j : Nat, j < 5 → vp_in (x3 + nI j) L)
    (kk : ∀ (ad : Nat → Nat), ad 0 = h1 → ∀ σ τ, I σ τ → Wz z 1055 [(0, .ref (z_b z)), (1, .ref h1), (2, .ref h2), (3, .int x3)] [] ad am σ τ) : Wz z 893 [(0, .ref (z_b z)), (1, .ref h1), (2, .ref h2), (3, .int x3)] [] ad am σ τ := by
  obtain ⟨r, σ1, τ1, e1, e2, hI⟩ := hSim.2.2.2.2.2.2.2.2.2.2.2.2.2.2.2.2.2.2.2.2.2.1  σ τ hI
  refine z_aload_n K dL_law_893 1 rfl ?_
  refine z_callS K h1e (ctX11_forget e1) (cwV 0 K.ts gL_law_X11_forget rfl rfl rfl hVX11_forget ⟨Nat.le_of_ble_eq_true rfl, Nat.le_of_ble_eq_true rfl⟩) rfl rfl (Nat.le_of_ble_eq_true rfl) dL_law_894 ?_
  refine z_aload_n K dL_law_897 2 rfl ?_
  refine z_callM K h2e (ctX12_forget e2) (cwV 0 K.ts gL_law_X12_forget rfl rfl rfl hVX12_forget ⟨Nat.le_of_ble_eq_true rfl, Nat.le_of_ble_eq_true rfl⟩) rfl rfl (Nat.le_of_ble_eq_true rfl) dL_law_898 ?_
  refine z_same (tgt := 1055) K dL_law_901 (by decide) ?_
  exact kk _ h1e σ1 τ1 hI
set_option maxRecDepth 100000 in
set_option maxHeartbeats 4000000 in
theorem law_moved {z : Zx} {L : Nat} {xs : Nat → Int32} {ad am : Nat → Nat} {σ τ : St} {x3 : Int32} {h1 h2 : Nat} {I : St → St → Prop} (K : ZK z L xs) (hSim : Sim I) (hI : I σ τ) (h1e : ad 0 = h1) (h2e : am 0 = h2) (hin : ∀ j : Nat, j < 5 → vp_in (x3 + nI j) L)
    (kk : ∀ (ad : Nat → Nat), ad 0 = h1 → ∀ σ τ, I σ τ → Wz z 1055 [(0, .ref (z_b z)), (1, .ref h1), (2, .ref h2), (3, .int x3)] [] ad am σ τ) : Wz z 906 [(0, .ref (z_b z)), (1, .ref h1), (2, .ref h2), (3, .int x3)] [] ad am σ τ := by
  obtain ⟨r, σ1, τ1, e1, e2, hI⟩ := hSim.2.2.2.2.2.2.2.2.2.2.2.2.2.2.2.2.2.2.2.2.2.2.1 (xs (nx (x3 + 1))) σ τ hI
  refine z_aload_n K dL_law_906 1 rfl ?_
  refine z_aload_n K dL_law_907 0 rfl ?_
  refine z_iload_n K dL_law_908 3 rfl ?_
  refine z_iconst (x := 1) K dL_law_909 (by decide) ?_
  refine z_iadd K dL_law_910 ?_
  refine z_sld K (hin 1 (by decide)) dL_law_911 ?_
  refine z_callS K h1e (ctX11_moved e1) (cwV 1 K.ts gL_law_X11_moved rfl rfl rfl hVX11_moved ⟨Nat.le_of_ble_eq_true rfl, Nat.le_of_ble_eq_true rfl⟩) rfl rfl (Nat.le_of_ble_eq_true rfl) dL_law_912 ?_
  refine z_aload_n K dL_law_915 2 rfl ?_
  refine z_aload_n K dL_law_916 0 rfl ?_
  refine z_iload_n K dL_law_917 3 rfl ?_
  refine z_iconst (x := 1) K dL_law_918 (by decide) ?_
  refine z_iadd K dL_law_919 ?_
  refine z_sld K (hin 1 (by decide)) dL_law_920 ?_
  refine z_callM K h2e (ctX12_moved e2) (cwV 1 K.ts gL_law_X12_moved rfl rfl rfl hVX12_moved ⟨Nat.le_of_ble_eq_true rfl, Nat.le_of_ble_eq_true rfl⟩) rfl rfl (Nat.le_of_ble_eq_true rfl) dL_law_921 ?_
  refine z_same (tgt := 1055) K dL_law_924 (by decide) ?_
  exact kk _ h1e σ1 τ1 hI
set_option maxRecDepth 100000 in
set_option maxHeartbeats 4000000 in
theorem law_mark {z : Zx} {L : Nat} {xs : Nat → Int32} {ad am : Nat → Nat} {σ τ : St} {x3 : Int32} {h1 h2 : Nat} {I : St → St → Prop} (K : ZK z L xs) (hSim : Sim I) (hI : I σ τ) (h1e : ad 0 = h1) (h2e : am 0 = h2) (hin : ∀ j : Nat, j < 5 → vp_in (x3 + nI j) L)
    (kk : ∀ (ad : Nat → Nat), ad 0 = h1 → ∀ σ τ, I σ τ → Wz z 1055 [(0, .ref (z_b z)), (1, .ref h1), (2, .ref h2), (3, .int x3)] [] ad am σ τ) : Wz z 929 [(0, .ref (z_b z)), (1, .ref h1), (2, .ref h2), (3, .int x3)] [] ad am σ τ := by
  obtain ⟨r, σ1, τ1, e1, e2, hI⟩ := hSim.2.2.2.2.2.2.2.2.2.2.2.2.2.2.2.2.2.2.2.2.2.2.2.1 (xs (nx (x3 + 1))) (xs (nx (x3 + 2))) (xs (nx (x3 + 3))) σ τ hI
  refine z_aload_n K dL_law_929 1 rfl ?_
  refine z_aload_n K dL_law_930 0 rfl ?_
  refine z_iload_n K dL_law_931 3 rfl ?_
  refine z_iconst (x := 1) K dL_law_932 (by decide) ?_
  refine z_iadd K dL_law_933 ?_
  refine z_sld K (hin 1 (by decide)) dL_law_934 ?_
  refine z_aload_n K dL_law_935 0 rfl ?_
  refine z_iload_n K dL_law_936 3 rfl ?_
  refine z_iconst (x := 2) K dL_law_937 (by decide) ?_
  refine z_iadd K dL_law_938 ?_
  refine z_sld K (hin 2 (by decide)) dL_law_939 ?_
  refine z_aload_n K dL_law_940 0 rfl ?_
  refine z_iload_n K dL_law_941 3 rfl ?_
  refine z_iconst (x := 3) K dL_law_942 (by decide) ?_
  refine z_iadd K dL_law_943 ?_
  refine z_sld K (hin 3 (by decide)) dL_law_944 ?_
  refine z_callS K h1e (ctX11_mark e1) (cwV 3 K.ts gL_law_X11_mark rfl rfl rfl hVX11_mark ⟨Nat.le_of_ble_eq_true rfl, Nat.le_of_ble_eq_true rfl⟩) rfl rfl (Nat.le_of_ble_eq_true rfl) dL_law_945 ?_
  refine z_aload_n K dL_law_948 2 rfl ?_
  refine z_aload_n K dL_law_949 0 rfl ?_
  refine z_iload_n K dL_law_950 3 rfl ?_
  refine z_iconst (x := 1) K dL_law_951 (by decide) ?_
  refine z_iadd K dL_law_952 ?_
  refine z_sld K (hin 1 (by decide)) dL_law_953 ?_
  refine z_aload_n K dL_law_954 0 rfl ?_
  refine z_iload_n K dL_law_955 3 rfl ?_
  refine z_iconst (x := 2) K dL_law_956 (by decide) ?_
  refine z_iadd K dL_law_957 ?_
  refine z_sld K (hin 2 (by decide)) dL_law_958 ?_
  refine z_aload_n K dL_law_959 0 rfl ?_
  refine z_iload_n K dL_law_960 3 rfl ?_
  refine z_iconst (x := 3) K dL_law_961 (by decide) ?_
  refine z_iadd K dL_law_962 ?_
  refine z_sld K (hin 3 (by decide)) dL_law_963 ?_
  refine z_callM K h2e (ctX12_mark e2) (cwV 3 K.ts gL_law_X12_mark rfl rfl rfl hVX12_mark ⟨Nat.le_of_ble_eq_true rfl, Nat.le_of_ble_eq_true rfl⟩) rfl rfl (Nat.le_of_ble_eq_true rfl) dL_law_964 ?_
  refine z_same (tgt := 1055) K dL_law_967 (by decide) ?_
  exact kk _ h1e σ1 τ1 hI
set_option maxRecDepth 100000 in
set_option maxHeartbeats 4000000 in
theorem law_keep {z : Zx} {L : Nat} {xs : Nat → Int32} {ad am : Nat → Nat} {σ τ : St} {x3 : Int32} {h1 h2 : Nat} {I : St → St → Prop} (K : ZK z L xs) (hSim : Sim I) (hI : I σ τ) (h1e : ad 0 = h1) (h2e : am 0 = h2) (hin : ∀ j : Nat, j < 5 → vp_in (x3 + nI j) L)
    (kk : ∀ (ad : Nat → Nat), ad 0 = h1 → ∀ σ τ, I σ τ → Wz z 1055 [(0, .ref (z_b z)), (1, .ref h1), (2, .ref h2), (3, .int x3)] [] ad am σ τ) : Wz z 972 [(0, .ref (z_b z)), (1, .ref h1), (2, .ref h2), (3, .int x3)] [] ad am σ τ := by
  obtain ⟨r, σ1, τ1, e1, e2, hI⟩ := hSim.2.2.2.2.2.2.2.2.2.2.2.2.2.2.2.2.2.2.2.2.2.2.2.2.1 (xs (nx (x3 + 1))) σ τ hI
  refine z_aload_n K dL_law_972 1 rfl ?_
  refine z_aload_n K dL_law_973 0 rfl ?_
  refine z_iload_n K dL_law_974 3 rfl ?_
  refine z_iconst (x := 1) K dL_law_975 (by decide) ?_
  refine z_iadd K dL_law_976 ?_
  refine z_sld K (hin 1 (by decide)) dL_law_977 ?_
  refine z_callS K h1e (ctX11_keep e1) (cwV 1 K.ts gL_law_X11_keep rfl rfl rfl hVX11_keep ⟨Nat.le_of_ble_eq_true rfl, Nat.le_of_ble_eq_true rfl⟩) rfl rfl (Nat.le_of_ble_eq_true rfl) dL_law_978 ?_
  refine z_aload_n K dL_law_981 2 rfl ?_
  refine z_aload_n K dL_law_982 0 rfl ?_
  refine z_iload_n K dL_law_983 3 rfl ?_
  refine z_iconst (x := 1) K dL_law_984 (by decide) ?_
  refine z_iadd K dL_law_985 ?_
  refine z_sld K (hin 1 (by decide)) dL_law_986 ?_
  refine z_callM K h2e (ctX12_keep e2) (cwV 1 K.ts gL_law_X12_keep rfl rfl rfl hVX12_keep ⟨Nat.le_of_ble_eq_true rfl, Nat.le_of_ble_eq_true rfl⟩) rfl rfl (Nat.le_of_ble_eq_true rfl) dL_law_987 ?_
  refine z_same (tgt := 1055) K dL_law_990 (by decide) ?_
  exact kk _ h1e σ1 τ1 hI
set_option maxRecDepth 100000 in
set_option maxHeartbeats 4000000 in
theorem law_back {z : Zx} {L : Nat} {xs : Nat → Int32} {ad am : Nat → Nat} {σ τ : St} {x3 : Int32} {h1 h2 : Nat} {I : St → St → Prop} (K : ZK z L xs) (hSim : Sim I) (hI : I σ τ) (h1e : ad 0 = h1) (h2e : am 0 = h2) (hin : ∀ j : Nat, j < 5 → vp_in (x3 + nI j) L)
    (kk : ∀ (ad : Nat → Nat), ad 0 = h1 → ∀ σ τ, I σ τ → Wz z 1055 [(0, .ref (z_b z)), (1, .ref h1), (2, .ref h2), (3, .int x3)] [] ad am σ τ) : Wz z 995 [(0, .ref (z_b z)), (1, .ref h1), (2, .ref h2), (3, .int x3)] [] ad am σ τ := by
  obtain ⟨r, σ1, τ1, e1, e2, hI⟩ := hSim.2.2.2.2.2.2.2.2.2.2.2.2.2.2.2.2.2.2.2.2.2.2.2.2.2.1 (xs (nx (x3 + 1))) σ τ hI
  refine z_aload_n K dL_law_995 1 rfl ?_
  refine z_aload_n K dL_law_996 0 rfl ?_
  refine z_iload_n K dL_law_997 3 rfl ?_
  refine z_iconst (x := 1) K dL_law_998 (by decide) ?_
  refine z_iadd K dL_law_999 ?_
  refine z_sld K (hin 1 (by decide)) dL_law_1000 ?_
  refine z_callS K h1e (ctX11_back e1) (cwV 1 K.ts gL_law_X11_back rfl rfl rfl hVX11_back ⟨Nat.le_of_ble_eq_true rfl, Nat.le_of_ble_eq_true rfl⟩) rfl rfl (Nat.le_of_ble_eq_true rfl) dL_law_1001 ?_
  refine z_aload_n K dL_law_1004 2 rfl ?_
  refine z_aload_n K dL_law_1005 0 rfl ?_
  refine z_iload_n K dL_law_1006 3 rfl ?_
  refine z_iconst (x := 1) K dL_law_1007 (by decide) ?_
  refine z_iadd K dL_law_1008 ?_
  refine z_sld K (hin 1 (by decide)) dL_law_1009 ?_
  refine z_callM K h2e (ctX12_back e2) (cwV 1 K.ts gL_law_X12_back rfl rfl rfl hVX12_back ⟨Nat.le_of_ble_eq_true rfl, Nat.le_of_ble_eq_true rfl⟩) rfl rfl (Nat.le_of_ble_eq_true rfl) dL_law_1010 ?_
  refine z_same (tgt := 1055) K dL_law_1013 (by decide) ?_
  exact kk _ h1e σ1 τ1 hI
set_option maxRecDepth 100000 in
set_option maxHeartbeats 4000000 in
theorem law_count {z : Zx} {L : Nat} {xs : Nat → Int32} {ad am : Nat → Nat} {σ τ : St} {x3 : Int32} {h1 h2 : Nat} {I : St → St → Prop} (K : ZK z L xs) (hSim : Sim I) (hI : I σ τ) (h1e : ad 0 = h1) (h2e : am 0 = h2) (hin : ∀ j : Nat, j < 5 → vp_in (x3 + nI j) L)
    (kk : ∀ (ad : Nat → Nat), ad 0 = h1 → ∀ σ τ, I σ τ → Wz z 1055 [(0, .ref (z_b z)), (1, .ref h1), (2, .ref h2), (3, .int x3)] [] ad am σ τ) : Wz z 1018 [(0, .ref (z_b z)), (1, .ref h1), (2, .ref h2), (3, .int x3)] [] ad am σ τ := by
  obtain ⟨r, σ1, τ1, e1, e2, hI⟩ := hSim.2.2.2.2.2.2.2.2.2.2.2.2.2.2.2.2.2.2.2.2.2.2.2.2.2.2.1 (xs (nx (x3 + 1))) σ τ hI
  refine z_aload_n K dL_law_1018 1 rfl ?_
  refine z_aload_n K dL_law_1019 0 rfl ?_
  refine z_iload_n K dL_law_1020 3 rfl ?_
  refine z_iconst (x := 1) K dL_law_1021 (by decide) ?_
  refine z_iadd K dL_law_1022 ?_
  refine z_sld K (hin 1 (by decide)) dL_law_1023 ?_
  refine z_callS K h1e (ctX11_count e1) (cwV 1 K.ts gL_law_X11_count rfl rfl rfl hVX11_count ⟨Nat.le_of_ble_eq_true rfl, Nat.le_of_ble_eq_true rfl⟩) rfl rfl (Nat.le_of_ble_eq_true rfl) dL_law_1024 ?_
  refine z_aload_n K dL_law_1027 2 rfl ?_
  refine z_aload_n K dL_law_1028 0 rfl ?_
  refine z_iload_n K dL_law_1029 3 rfl ?_
  refine z_iconst (x := 1) K dL_law_1030 (by decide) ?_
  refine z_iadd K dL_law_1031 ?_
  refine z_sld K (hin 1 (by decide)) dL_law_1032 ?_
  refine z_callM K h2e (ctX12_count e2) (cwV 1 K.ts gL_law_X12_count rfl rfl rfl hVX12_count ⟨Nat.le_of_ble_eq_true rfl, Nat.le_of_ble_eq_true rfl⟩) rfl rfl (Nat.le_of_ble_eq_true rfl) dL_law_1033 ?_
  refine z_same (tgt := 1055) K dL_law_1036 (by decide) ?_
  exact kk _ h1e σ1 τ1 hI
set_option maxRecDepth 100000 in
set_option maxHeartbeats 4000000 in
theorem law_trace {z : Zx} {L : Nat} {xs : Nat → Int32} {ad am : Nat → Nat} {σ τ : St} {x3 : Int32} {h1 h2 : Nat} {I : St → St → Prop} (K : ZK z L xs) (hSim : Sim I) (hI : I σ τ) (h1e : ad 0 = h1) (h2e : am 0 = h2) (hin : ∀ j : Nat, j < 5 → vp_in (x3 + nI j) L)
    (kk : ∀ (ad : Nat → Nat), ad 0 = h1 → ∀ σ τ, I σ τ → Wz z 1055 [(0, .ref (z_b z)), (1, .ref h1), (2, .ref h2), (3, .int x3)] [] ad am σ τ) : Wz z 1041 [(0, .ref (z_b z)), (1, .ref h1), (2, .ref h2), (3, .int x3)] [] ad am σ τ := by
  obtain ⟨r, σ1, τ1, e1, e2, hI⟩ := hSim.2.2.2.2.2.2.2.2.2.2.2.2.2.2.2.2.2.2.2.2.2.2.2.2.2.2.2  σ τ hI
  refine z_aload_n K dL_law_1041 1 rfl ?_
  refine z_callSl K h1e (ctX11_trace e1) (cwV 0 K.ts gL_law_X11_trace rfl rfl rfl hVX11_trace ⟨Nat.le_of_ble_eq_true rfl, Nat.le_of_ble_eq_true rfl⟩) rfl (Nat.le_of_ble_eq_true rfl) dL_law_1042 ?_
  refine z_aload_n K dL_law_1045 2 rfl ?_
  refine z_callMl K h2e (ctX12_trace e2) (cwV 0 K.ts gL_law_X12_trace rfl rfl rfl hVX12_trace ⟨Nat.le_of_ble_eq_true rfl, Nat.le_of_ble_eq_true rfl⟩) rfl (Nat.le_of_ble_eq_true rfl) dL_law_1046 ?_
  refine z_sameL (tgt := 1055) K dL_law_1049 dL_law_1050 (by decide) ?_
  exact kk _ h1e σ1 τ1 hI
