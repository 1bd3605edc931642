theorem ob_Scw {C : ob_Cx} {b L : Nat} {xs : Nat → Int32} (h : ob_Sc C b L xs) : ob_Sc (ob_w C) b L xs := by
  obtain ⟨p, l, e, R, s, m, args, below, meth, c, D, ad, ca, Q, ce, sl⟩ := C
  exact h
theorem law_end {C : ob_Cx} {b : Nat} {n1 n2 n3 : Nat} {rec : ob_St → Int32 → Option ob_St} {g : ob_St} {x4 : Int32} {x : ob_St} (F2 : ob_Fx (ob_w C) cL_law 8 RL (some .boolean) 11 454) (hr : ∀ {g : ob_St} {x4 : Int32} {x : ob_St}, rec g x4 = some x → ob_Ev (ob_w C) 23 [(0, .ref b), (1, ob_rv (ob_w C) n1), (2, ob_rv (ob_w C) n2), (3, ob_rv (ob_w C) n3), (4, .int x4)] [] g) (h : rec g (x4 + 6) = some x) : ob_Ev (ob_w C) 2090 [(0, .ref b), (1, ob_rv (ob_w C) n1), (2, ob_rv (ob_w C) n2), (3, ob_rv (ob_w C) n3), (4, .int x4)] [] g := by
  refine ob_iinc F2 (v := x4 + 6) (ls2 := [(4, .int (x4 + 6)), (0, .ref b), (1, ob_rv (ob_w C) n1), (2, ob_rv (ob_w C) n2), (3, ob_rv (ob_w C) n3)]) 4 dL_law_2090 rfl rfl (by decide) rfl ?_
  refine ob_goto F2 23 dL_law_2093 (by decide) ?_
  exact ob_sub [1, 2, 3, 4, 0] rfl (hr h)
def law_0 (L : Nat) (xs : Nat → Int32) (n1 n2 n3 : Nat) (rec : ob_St → Int32 → Option ob_St) (g : ob_St) (x4 : Int32) : Option ob_St :=
  (ob_sI L xs (x4 + 1)).bind fun v1 => (ob_sI L xs (x4 + 2)).bind fun v2 => (ob_sI L xs (x4 + 3)).bind fun v3 => (ob_sI L xs (x4 + 4)).bind fun v4 => (ob_sI L xs (x4 + 5)).bind fun v5 => (ob_ck 11 n1 (f_X11_feed g n1 v1 v2 v3 v4 v5)).bind fun v6 => (ob_sI L xs (x4 + 1)).bind fun v7 => (ob_sI L xs (x4 + 2)).bind fun v8 => (ob_sI L xs (x4 + 3)).bind fun v9 => (ob_sI L xs (x4 + 4)).bind fun v10 => (ob_sI L xs (x4 + 5)).bind fun v11 => (ob_ck 12 n2 (f_X12_feed v6.2 n2 v7 v8 v9 v10 v11)).bind fun v12 => (if v6.1 = v12.1 then (rec v12.2 (x4 + 6)) else (none))
theorem law_t0 {C : ob_Cx} {b L : Nat} {xs : Nat → Int32} {n1 n2 n3 : Nat} {rec : ob_St → Int32 → Option ob_St} {g : ob_St} {x4 : Int32} {x : ob_St} (F : ob_Fx C cL_law 8 RL (some .boolean) 11 454) (F2 : ob_Fx (ob_w C) cL_law 8 RL (some .boolean) 11 454) (hX : ob_Sc C b L xs) (hst : (ob_cf C).1.stackTraces = false) (hr : ∀ {g : ob_St} {x4 : Int32} {x : ob_St}, rec g x4 = some x → ob_Ev (ob_w C) 23 [(0, .ref b), (1, ob_rv (ob_w C) n1), (2, ob_rv (ob_w C) n2), (3, ob_rv (ob_w C) n3), (4, .int x4)] [] g) (h : law_0 L xs n1 n2 n3 rec g x4 = some x) : ob_Ev C 200 [(0, .ref b), (1, ob_rv C n1), (2, ob_rv C n2), (3, ob_rv C n3), (4, .int x4)] [] g := by
  unfold law_0 at h
  refine ob_rload_n F 1 dL_law_200 rfl ?_
  refine ob_aload_n F 0 dL_law_201 rfl ?_
  refine ob_iload F 4 dL_law_202 rfl ?_
  refine ob_iconst F (v := 1) dL_law_204 (by decide) ?_
  refine ob_iadd F dL_law_205 ?_
  refine ob_sld F hX dL_law_206 h fun v1 h => ?_
  refine ob_aload_n F 0 dL_law_207 rfl ?_
  refine ob_iload F 4 dL_law_208 rfl ?_
  refine ob_iconst F (v := 2) dL_law_210 (by decide) ?_
  refine ob_iadd F dL_law_211 ?_
  refine ob_sld F hX dL_law_212 h fun v2 h => ?_
  refine ob_aload_n F 0 dL_law_213 rfl ?_
  refine ob_iload F 4 dL_law_214 rfl ?_
  refine ob_iconst F (v := 3) dL_law_216 (by decide) ?_
  refine ob_iadd F dL_law_217 ?_
  refine ob_sld F hX dL_law_218 h fun v3 h => ?_
  refine ob_aload_n F 0 dL_law_219 rfl ?_
  refine ob_iload F 4 dL_law_220 rfl ?_
  refine ob_iconst F (v := 4) dL_law_222 (by decide) ?_
  refine ob_iadd F dL_law_223 ?_
  refine ob_sld F hX dL_law_224 h fun v4 h => ?_
  refine ob_aload_n F 0 dL_law_225 rfl ?_
  refine ob_iload F 4 dL_law_226 rfl ?_
  refine ob_iconst F (v := 5) dL_law_228 (by decide) ?_
  refine ob_iadd F dL_law_229 ?_
  refine ob_sld F hX dL_law_230 h fun v5 h => ?_
  refine ob_cViS F dL_law_231 im_X11_feed tw3_4 h (fun b hb => t_X11_feed hb) rfl rfl (Nat.le_of_ble_eq_true rfl) (by decide) fun v6 h => ?_
  refine ob_rload_n F 2 dL_law_234 rfl ?_
  refine ob_aload_n F 0 dL_law_235 rfl ?_
  refine ob_iload F 4 dL_law_236 rfl ?_
  refine ob_iconst F (v := 1) dL_law_238 (by decide) ?_
  refine ob_iadd F dL_law_239 ?_
  refine ob_sld F hX dL_law_240 h fun v7 h => ?_
  refine ob_aload_n F 0 dL_law_241 rfl ?_
  refine ob_iload F 4 dL_law_242 rfl ?_
  refine ob_iconst F (v := 2) dL_law_244 (by decide) ?_
  refine ob_iadd F dL_law_245 ?_
  refine ob_sld F hX dL_law_246 h fun v8 h => ?_
  refine ob_aload_n F 0 dL_law_247 rfl ?_
  refine ob_iload F 4 dL_law_248 rfl ?_
  refine ob_iconst F (v := 3) dL_law_250 (by decide) ?_
  refine ob_iadd F dL_law_251 ?_
  refine ob_sld F hX dL_law_252 h fun v9 h => ?_
  refine ob_aload_n F 0 dL_law_253 rfl ?_
  refine ob_iload F 4 dL_law_254 rfl ?_
  refine ob_iconst F (v := 4) dL_law_256 (by decide) ?_
  refine ob_iadd F dL_law_257 ?_
  refine ob_sld F hX dL_law_258 h fun v10 h => ?_
  refine ob_aload_n F 0 dL_law_259 rfl ?_
  refine ob_iload F 4 dL_law_260 rfl ?_
  refine ob_iconst F (v := 5) dL_law_262 (by decide) ?_
  refine ob_iadd F dL_law_263 ?_
  refine ob_sld F hX dL_law_264 h fun v11 h => ?_
  refine ob_cViS F dL_law_265 im_X12_feed tw6_32 h (fun b hb => t_X12_feed hb) rfl rfl (Nat.le_of_ble_eq_true rfl) (by decide) fun v12 h => ?_
  refine ob_icmp_eq F 2090 dL_law_268 (by decide) h (fun h => ?_) (fun h => ?_)
  · exact ob_wd (law_end F2 hr h)
  · exact ob_no h
def law_1 (L : Nat) (xs : Nat → Int32) (n1 n2 n3 : Nat) (rec : ob_St → Int32 → Option ob_St) (g : ob_St) (x4 : Int32) : Option ob_St :=
  (ob_sI L xs (x4 + 1)).bind fun v13 => (ob_ck 11 n1 (f_X11_end g n1 v13)).bind fun v14 => (ob_sI L xs (x4 + 1)).bind fun v15 => (ob_ck 12 n2 (f_X12_end v14.2 n2 v15)).bind fun v16 => (if v14.1 = v16.1 then (rec v16.2 (x4 + 6)) else (none))
theorem law_t1 {C : ob_Cx} {b L : Nat} {xs : Nat → Int32} {n1 n2 n3 : Nat} {rec : ob_St → Int32 → Option ob_St} {g : ob_St} {x4 : Int32} {x : ob_St} (F : ob_Fx C cL_law 8 RL (some .boolean) 11 454) (F2 : ob_Fx (ob_w C) cL_law 8 RL (some .boolean) 11 454) (hX : ob_Sc C b L xs) (hst : (ob_cf C).1.stackTraces = false) (hr : ∀ {g : ob_St} {x4 : Int32} {x : ob_St}, rec g x4 = some x → ob_Ev (ob_w C) 23 [(0, .ref b), (1, ob_rv (ob_w C) n1), (2, ob_rv (ob_w C) n2), (3, ob_rv (ob_w C) n3), (4, .int x4)] [] g) (h : law_1 L xs n1 n2 n3 rec g x4 = some x) : ob_Ev C 273 [(0, .ref b), (1, ob_rv C n1), (2, ob_rv C n2), (3, ob_rv C n3), (4, .int x4)] [] g := by
  unfold law_1 at h
  refine ob_rload_n F 1 dL_law_273 rfl ?_
  refine ob_aload_n F 0 dL_law_274 rfl ?_
  refine ob_iload F 4 dL_law_275 rfl ?_
  refine ob_iconst F (v := 1) dL_law_277 (by decide) ?_
  refine ob_iadd F dL_law_278 ?_
  refine ob_sld F hX dL_law_279 h fun v13 h => ?_
  refine ob_cViS F dL_law_280 im_X11_end tw3_12 h (fun b hb => t_X11_end hb) rfl rfl (Nat.le_of_ble_eq_true rfl) (by decide) fun v14 h => ?_
  refine ob_rload_n F 2 dL_law_283 rfl ?_
  refine ob_aload_n F 0 dL_law_284 rfl ?_
  refine ob_iload F 4 dL_law_285 rfl ?_
  refine ob_iconst F (v := 1) dL_law_287 (by decide) ?_
  refine ob_iadd F dL_law_288 ?_
  refine ob_sld F hX dL_law_289 h fun v15 h => ?_
  refine ob_cViS F dL_law_290 im_X12_end tw6_40 h (fun b hb => t_X12_end hb) rfl rfl (Nat.le_of_ble_eq_true rfl) (by decide) fun v16 h => ?_
  refine ob_icmp_eq F 2090 dL_law_293 (by decide) h (fun h => ?_) (fun h => ?_)
  · exact ob_wd (law_end F2 hr h)
  · exact ob_no h
def law_2 (L : Nat) (xs : Nat → Int32) (n1 n2 n3 : Nat) (rec : ob_St → Int32 → Option ob_St) (g : ob_St) (x4 : Int32) : Option ob_St :=
  (ob_ck 11 n1 (f_X11_bench g n1)).bind fun v17 => (ob_ck 12 n2 (f_X12_bench v17.2 n2)).bind fun v18 => (if v17.1 = v18.1 then (rec v18.2 (x4 + 6)) else (none))
theorem law_t2 {C : ob_Cx} {b L : Nat} {xs : Nat → Int32} {n1 n2 n3 : Nat} {rec : ob_St → Int32 → Option ob_St} {g : ob_St} {x4 : Int32} {x : ob_St} (F : ob_Fx C cL_law 8 RL (some .boolean) 11 454) (F2 : ob_Fx (ob_w C) cL_law 8 RL (some .boolean) 11 454) (hX : ob_Sc C b L xs) (hst : (ob_cf C).1.stackTraces = false) (hr : ∀ {g : ob_St} {x4 : Int32} {x : ob_St}, rec g x4 = some x → ob_Ev (ob_w C) 23 [(0, .ref b), (1, ob_rv (ob_w C) n1), (2, ob_rv (ob_w C) n2), (3, ob_rv (ob_w C) n3), (4, .int x4)] [] g) (h : law_2 L xs n1 n2 n3 rec g x4 = some x) : ob_Ev C 298 [(0, .ref b), (1, ob_rv C n1), (2, ob_rv C n2), (3, ob_rv C n3), (4, .int x4)] [] g := by
  unfold law_2 at h
  refine ob_rload_n F 1 dL_law_298 rfl ?_
  refine ob_cViS F dL_law_299 im_X11_bench tw3_16 h (fun b hb => t_X11_bench hb) rfl rfl (Nat.le_of_ble_eq_true rfl) (by decide) fun v17 h => ?_
  refine ob_rload_n F 2 dL_law_302 rfl ?_
  refine ob_cViS F dL_law_303 im_X12_bench tw6_44 h (fun b hb => t_X12_bench hb) rfl rfl (Nat.le_of_ble_eq_true rfl) (by decide) fun v18 h => ?_
  refine ob_icmp_eq F 2090 dL_law_306 (by decide) h (fun h => ?_) (fun h => ?_)
  · exact ob_wd (law_end F2 hr h)
  · exact ob_no h
def law_3 (L : Nat) (xs : Nat → Int32) (n1 n2 n3 : Nat) (rec : ob_St → Int32 → Option ob_St) (g : ob_St) (x4 : Int32) : Option ob_St :=
  (ob_ck 11 n1 (f_X11_fault g n1)).bind fun v19 => (ob_ck 12 n2 (f_X12_fault g n2)).bind fun v20 => (if v19 = v20.1 then (rec v20.2 (x4 + 6)) else (none))
theorem law_t3 {C : ob_Cx} {b L : Nat} {xs : Nat → Int32} {n1 n2 n3 : Nat} {rec : ob_St → Int32 → Option ob_St} {g : ob_St} {x4 : Int32} {x : ob_St} (F : ob_Fx C cL_law 8 RL (some .boolean) 11 454) (F2 : ob_Fx (ob_w C) cL_law 8 RL (some .boolean) 11 454) (hX : ob_Sc C b L xs) (hst : (ob_cf C).1.stackTraces = false) (hr : ∀ {g : ob_St} {x4 : Int32} {x : ob_St}, rec g x4 = some x → ob_Ev (ob_w C) 23 [(0, .ref b), (1, ob_rv (ob_w C) n1), (2, ob_rv (ob_w C) n2), (3, ob_rv (ob_w C) n3), (4, .int x4)] [] g) (h : law_3 L xs n1 n2 n3 rec g x4 = some x) : ob_Ev C 311 [(0, .ref b), (1, ob_rv C n1), (2, ob_rv C n2), (3, ob_rv C n3), (4, .int x4)] [] g := by
  unfold law_3 at h
  refine ob_rload_n F 1 dL_law_311 rfl ?_
  refine ob_cVi F dL_law_312 im_X11_fault tw3_152 h (fun b hb => t_X11_fault hb) rfl rfl (Nat.le_of_ble_eq_true rfl) (by decide) fun v19 h => ?_
  refine ob_rload_n F 2 dL_law_315 rfl ?_
  refine ob_cViS F dL_law_316 im_X12_fault tw6_125 h (fun b hb => t_X12_fault hb) rfl rfl (Nat.le_of_ble_eq_true rfl) (by decide) fun v20 h => ?_
  refine ob_icmp_eq F 2090 dL_law_319 (by decide) h (fun h => ?_) (fun h => ?_)
  · exact ob_wd (law_end F2 hr h)
  · exact ob_no h
def law_4 (L : Nat) (xs : Nat → Int32) (n1 n2 n3 : Nat) (rec : ob_St → Int32 → Option ob_St) (g : ob_St) (x4 : Int32) : Option ob_St :=
  (ob_sI L xs (x4 + 1)).bind fun v21 => (ob_ck 11 n1 (f_X11_count g n1 v21)).bind fun v22 => (ob_sI L xs (x4 + 1)).bind fun v23 => (ob_ck 12 n2 (f_X12_count g n2 v23)).bind fun v24 => (if v22 = v24.1 then (rec v24.2 (x4 + 6)) else (none))
theorem law_t4 {C : ob_Cx} {b L : Nat} {xs : Nat → Int32} {n1 n2 n3 : Nat} {rec : ob_St → Int32 → Option ob_St} {g : ob_St} {x4 : Int32} {x : ob_St} (F : ob_Fx C cL_law 8 RL (some .boolean) 11 454) (F2 : ob_Fx (ob_w C) cL_law 8 RL (some .boolean) 11 454) (hX : ob_Sc C b L xs) (hst : (ob_cf C).1.stackTraces = false) (hr : ∀ {g : ob_St} {x4 : Int32} {x : ob_St}, rec g x4 = some x → ob_Ev (ob_w C) 23 [(0, .ref b), (1, ob_rv (ob_w C) n1), (2, ob_rv (ob_w C) n2), (3, ob_rv (ob_w C) n3), (4, .int x4)] [] g) (h : law_4 L xs n1 n2 n3 rec g x4 = some x) : ob_Ev C 324 [(0, .ref b), (1, ob_rv C n1), (2, ob_rv C n2), (3, ob_rv C n3), (4, .int x4)] [] g := by
  unfold law_4 at h
  refine ob_rload_n F 1 dL_law_324 rfl ?_
  refine ob_aload_n F 0 dL_law_325 rfl ?_
  refine ob_iload F 4 dL_law_326 rfl ?_
  refine ob_iconst F (v := 1) dL_law_328 (by decide) ?_
  refine ob_iadd F dL_law_329 ?_
  refine ob_sld F hX dL_law_330 h fun v21 h => ?_
  refine ob_cVi F dL_law_331 im_X11_count tw3_156 h (fun b hb => t_X11_count hb) rfl rfl (Nat.le_of_ble_eq_true rfl) (by decide) fun v22 h => ?_
  refine ob_rload_n F 2 dL_law_334 rfl ?_
  refine ob_aload_n F 0 dL_law_335 rfl ?_
  refine ob_iload F 4 dL_law_336 rfl ?_
  refine ob_iconst F (v := 1) dL_law_338 (by decide) ?_
  refine ob_iadd F dL_law_339 ?_
  refine ob_sld F hX dL_law_340 h fun v23 h => ?_
  refine ob_cViS F dL_law_341 im_X12_count tw6_129 h (fun b hb => t_X12_count hb) rfl rfl (Nat.le_of_ble_eq_true rfl) (by decide) fun v24 h => ?_
  refine ob_icmp_eq F 2090 dL_law_344 (by decide) h (fun h => ?_) (fun h => ?_)
  · exact ob_wd (law_end F2 hr h)
  · exact ob_no h
def law_5 (L : Nat) (xs : Nat → Int32) (n1 n2 n3 : Nat) (rec : ob_St → Int32 → Option ob_St) (g : ob_St) (x4 : Int32) : Option ob_St :=
  (ob_sI L xs (x4 + 1)).bind fun v25 => (ob_sI L xs (x4 + 2)).bind fun v26 => (ob_ck 11 n1 (f_X11_step g n1 v25 v26)).bind fun v27 => (ob_sI L xs (x4 + 1)).bind fun v28 => (ob_sI L xs (x4 + 2)).bind fun v29 => (ob_ck 12 n2 (f_X12_step g n2 v28 v29)).bind fun v30 => (if v27 = v30.1 then (rec v30.2 (x4 + 6)) else (none))
theorem law_t5 {C : ob_Cx} {b L : Nat} {xs : Nat → Int32} {n1 n2 n3 : Nat} {rec : ob_St → Int32 → Option ob_St} {g : ob_St} {x4 : Int32} {x : ob_St} (F : ob_Fx C cL_law 8 RL (some .boolean) 11 454) (F2 : ob_Fx (ob_w C) cL_law 8 RL (some .boolean) 11 454) (hX : ob_Sc C b L xs) (hst : (ob_cf C).1.stackTraces = false) (hr : ∀ {g : ob_St} {x4 : Int32} {x : ob_St}, rec g x4 = some x → ob_Ev (ob_w C) 23 [(0, .ref b), (1, ob_rv (ob_w C) n1), (2, ob_rv (ob_w C) n2), (3, ob_rv (ob_w C) n3), (4, .int x4)] [] g) (h : law_5 L xs n1 n2 n3 rec g x4 = some x) : ob_Ev C 349 [(0, .ref b), (1, ob_rv C n1), (2, ob_rv C n2), (3, ob_rv C n3), (4, .int x4)] [] g := by
  unfold law_5 at h
  refine ob_rload_n F 1 dL_law_349 rfl ?_
  refine ob_aload_n F 0 dL_law_350 rfl ?_
  refine ob_iload F 4 dL_law_351 rfl ?_
  refine ob_iconst F (v := 1) dL_law_353 (by decide) ?_
  refine ob_iadd F dL_law_354 ?_
  refine ob_sld F hX dL_law_355 h fun v25 h => ?_
  refine ob_aload_n F 0 dL_law_356 rfl ?_
  refine ob_iload F 4 dL_law_357 rfl ?_
  refine ob_iconst F (v := 2) dL_law_359 (by decide) ?_
  refine ob_iadd F dL_law_360 ?_
  refine ob_sld F hX dL_law_361 h fun v26 h => ?_
  refine ob_cVi F dL_law_362 im_X11_step tw3_164 h (fun b hb => t_X11_step hb) rfl rfl (Nat.le_of_ble_eq_true rfl) (by decide) fun v27 h => ?_
  refine ob_rload_n F 2 dL_law_365 rfl ?_
  refine ob_aload_n F 0 dL_law_366 rfl ?_
  refine ob_iload F 4 dL_law_367 rfl ?_
  refine ob_iconst F (v := 1) dL_law_369 (by decide) ?_
  refine ob_iadd F dL_law_370 ?_
  refine ob_sld F hX dL_law_371 h fun v28 h => ?_
  refine ob_aload_n F 0 dL_law_372 rfl ?_
  refine ob_iload F 4 dL_law_373 rfl ?_
  refine ob_iconst F (v := 2) dL_law_375 (by decide) ?_
  refine ob_iadd F dL_law_376 ?_
  refine ob_sld F hX dL_law_377 h fun v29 h => ?_
  refine ob_cViS F dL_law_378 im_X12_step tw6_137 h (fun b hb => t_X12_step hb) rfl rfl (Nat.le_of_ble_eq_true rfl) (by decide) fun v30 h => ?_
  refine ob_icmp_eq F 2090 dL_law_381 (by decide) h (fun h => ?_) (fun h => ?_)
  · exact ob_wd (law_end F2 hr h)
  · exact ob_no h
def law_6 (L : Nat) (xs : Nat → Int32) (n1 n2 n3 : Nat) (rec : ob_St → Int32 → Option ob_St) (g : ob_St) (x4 : Int32) : Option ob_St :=
  (ob_sI L xs (x4 + 1)).bind fun v31 => (ob_sI L xs (x4 + 2)).bind fun v32 => (ob_ck 11 n1 (f_X11_option g n1 v31 v32)).bind fun v33 => (ob_sI L xs (x4 + 1)).bind fun v34 => (ob_sI L xs (x4 + 2)).bind fun v35 => (ob_ck 12 n2 (f_X12_option g n2 v34 v35)).bind fun v36 => (if v33 = v36.1 then (rec v36.2 (x4 + 6)) else (none))
theorem law_t6 {C : ob_Cx} {b L : Nat} {xs : Nat → Int32} {n1 n2 n3 : Nat} {rec : ob_St → Int32 → Option ob_St} {g : ob_St} {x4 : Int32} {x : ob_St} (F : ob_Fx C cL_law 8 RL (some .boolean) 11 454) (F2 : ob_Fx (ob_w C) cL_law 8 RL (some .boolean) 11 454) (hX : ob_Sc C b L xs) (hst : (ob_cf C).1.stackTraces = false) (hr : ∀ {g : ob_St} {x4 : Int32} {x : ob_St}, rec g x4 = some x → ob_Ev (ob_w C) 23 [(0, .ref b), (1, ob_rv (ob_w C) n1), (2, ob_rv (ob_w C) n2), (3, ob_rv (ob_w C) n3), (4, .int x4)] [] g) (h : law_6 L xs n1 n2 n3 rec g x4 = some x) : ob_Ev C 386 [(0, .ref b), (1, ob_rv C n1), (2, ob_rv C n2), (3, ob_rv C n3), (4, .int x4)] [] g := by
  unfold law_6 at h
  refine ob_rload_n F 1 dL_law_386 rfl ?_
  refine ob_aload_n F 0 dL_law_387 rfl ?_
  refine ob_iload F 4 dL_law_388 rfl ?_
  refine ob_iconst F (v := 1) dL_law_390 (by decide) ?_
  refine ob_iadd F dL_law_391 ?_
  refine ob_sld F hX dL_law_392 h fun v31 h => ?_
  refine ob_aload_n F 0 dL_law_393 rfl ?_
  refine ob_iload F 4 dL_law_394 rfl ?_
  refine ob_iconst F (v := 2) dL_law_396 (by decide) ?_
  refine ob_iadd F dL_law_397 ?_
  refine ob_sld F hX dL_law_398 h fun v32 h => ?_
  refine ob_cVi F dL_law_399 im_X11_option tw3_172 h (fun b hb => t_X11_option hb) rfl rfl (Nat.le_of_ble_eq_true rfl) (by decide) fun v33 h => ?_
  refine ob_rload_n F 2 dL_law_402 rfl ?_
  refine ob_aload_n F 0 dL_law_403 rfl ?_
  refine ob_iload F 4 dL_law_404 rfl ?_
  refine ob_iconst F (v := 1) dL_law_406 (by decide) ?_
  refine ob_iadd F dL_law_407 ?_
  refine ob_sld F hX dL_law_408 h fun v34 h => ?_
  refine ob_aload_n F 0 dL_law_409 rfl ?_
  refine ob_iload F 4 dL_law_410 rfl ?_
  refine ob_iconst F (v := 2) dL_law_412 (by decide) ?_
  refine ob_iadd F dL_law_413 ?_
  refine ob_sld F hX dL_law_414 h fun v35 h => ?_
  refine ob_cViS F dL_law_415 im_X12_option tw6_141 h (fun b hb => t_X12_option hb) rfl rfl (Nat.le_of_ble_eq_true rfl) (by decide) fun v36 h => ?_
  refine ob_icmp_eq F 2090 dL_law_418 (by decide) h (fun h => ?_) (fun h => ?_)
  · exact ob_wd (law_end F2 hr h)
  · exact ob_no h
def law_7 (L : Nat) (xs : Nat → Int32) (n1 n2 n3 : Nat) (rec : ob_St → Int32 → Option ob_St) (g : ob_St) (x4 : Int32) : Option ob_St :=
  (ob_sI L xs (x4 + 1)).bind fun v37 => (ob_sI L xs (x4 + 2)).bind fun v38 => (ob_sI L xs (x4 + 3)).bind fun v39 => (ob_ck 11 n1 (f_X11_price g n1 v37 v38 v39)).bind fun v40 => (ob_sI L xs (x4 + 1)).bind fun v41 => (ob_sI L xs (x4 + 2)).bind fun v42 => (ob_sI L xs (x4 + 3)).bind fun v43 => (ob_ck 12 n2 (f_X12_price v40.2 n2 v41 v42 v43)).bind fun v44 => (if v40.1 = v44.1 then (rec v44.2 (x4 + 6)) else (none))
theorem law_t7 {C : ob_Cx} {b L : Nat} {xs : Nat → Int32} {n1 n2 n3 : Nat} {rec : ob_St → Int32 → Option ob_St} {g : ob_St} {x4 : Int32} {x : ob_St} (F : ob_Fx C cL_law 8 RL (some .boolean) 11 454) (F2 : ob_Fx (ob_w C) cL_law 8 RL (some .boolean) 11 454) (hX : ob_Sc C b L xs) (hst : (ob_cf C).1.stackTraces = false) (hr : ∀ {g : ob_St} {x4 : Int32} {x : ob_St}, rec g x4 = some x → ob_Ev (ob_w C) 23 [(0, .ref b), (1, ob_rv (ob_w C) n1), (2, ob_rv (ob_w C) n2), (3, ob_rv (ob_w C) n3), (4, .int x4)] [] g) (h : law_7 L xs n1 n2 n3 rec g x4 = some x) : ob_Ev C 423 [(0, .ref b), (1, ob_rv C n1), (2, ob_rv C n2), (3, ob_rv C n3), (4, .int x4)] [] g := by
  unfold law_7 at h
  refine ob_rload_n F 1 dL_law_423 rfl ?_
  refine ob_aload_n F 0 dL_law_424 rfl ?_
  refine ob_iload F 4 dL_law_425 rfl ?_
  refine ob_iconst F (v := 1) dL_law_427 (by decide) ?_
  refine ob_iadd F dL_law_428 ?_
  refine ob_sld F hX dL_law_429 h fun v37 h => ?_
  refine ob_aload_n F 0 dL_law_430 rfl ?_
  refine ob_iload F 4 dL_law_431 rfl ?_
  refine ob_iconst F (v := 2) dL_law_433 (by decide) ?_
  refine ob_iadd F dL_law_434 ?_
  refine ob_sld F hX dL_law_435 h fun v38 h => ?_
  refine ob_aload_n F 0 dL_law_436 rfl ?_
  refine ob_iload F 4 dL_law_437 rfl ?_
  refine ob_iconst F (v := 3) dL_law_439 (by decide) ?_
  refine ob_iadd F dL_law_440 ?_
  refine ob_sld F hX dL_law_441 h fun v39 h => ?_
  refine ob_cViS F dL_law_442 im_X11_price tw3_184 h (fun b hb => t_X11_price hb) rfl rfl (Nat.le_of_ble_eq_true rfl) (by decide) fun v40 h => ?_
  refine ob_rload_n F 2 dL_law_445 rfl ?_
  refine ob_aload_n F 0 dL_law_446 rfl ?_
  refine ob_iload F 4 dL_law_447 rfl ?_
  refine ob_iconst F (v := 1) dL_law_449 (by decide) ?_
  refine ob_iadd F dL_law_450 ?_
  refine ob_sld F hX dL_law_451 h fun v41 h => ?_
  refine ob_aload_n F 0 dL_law_452 rfl ?_
  refine ob_iload F 4 dL_law_453 rfl ?_
  refine ob_iconst F (v := 2) dL_law_455 (by decide) ?_
  refine ob_iadd F dL_law_456 ?_
  refine ob_sld F hX dL_law_457 h fun v42 h => ?_
  refine ob_aload_n F 0 dL_law_458 rfl ?_
  refine ob_iload F 4 dL_law_459 rfl ?_
  refine ob_iconst F (v := 3) dL_law_461 (by decide) ?_
  refine ob_iadd F dL_law_462 ?_
  refine ob_sld F hX dL_law_463 h fun v43 h => ?_
  refine ob_cViS F dL_law_464 im_X12_price tw6_158 h (fun b hb => t_X12_price hb) rfl rfl (Nat.le_of_ble_eq_true rfl) (by decide) fun v44 h => ?_
  refine ob_icmp_eq F 2090 dL_law_467 (by decide) h (fun h => ?_) (fun h => ?_)
  · exact ob_wd (law_end F2 hr h)
  · exact ob_no h
def law_8 (L : Nat) (xs : Nat → Int32) (n1 n2 n3 : Nat) (rec : ob_St → Int32 → Option ob_St) (g : ob_St) (x4 : Int32) : Option ob_St :=
  (ob_sI L xs (x4 + 1)).bind fun v45 => (ob_sI L xs (x4 + 2)).bind fun v46 => (ob_sI L xs (x4 + 3)).bind fun v47 => (ob_sI L xs (x4 + 4)).bind fun v48 => (f_L_pays g n1 v45 v46 v47 v48 n3).bind fun v49 => (ob_sI L xs (x4 + 1)).bind fun v50 => (ob_sI L xs (x4 + 2)).bind fun v51 => (ob_sI L xs (x4 + 3)).bind fun v52 => (ob_sI L xs (x4 + 4)).bind fun v53 => (ob_ck 12 n2 (f_X12_pays v49.2 n2 v50 v51 v52 v53)).bind fun v54 => (ob_ck 12 n2 (f_X12_thrown v54.2 n2)).bind fun v55 => (if v55 = v49.1 then ((if v49.1 = 0 then ((ob_rL v54.2 n3 0).bind fun v56 => (if v56 = v54.1 then (rec v54.2 (x4 + 6)) else (none))) else (rec v54.2 (x4 + 6)))) else (none))
theorem law_t8 {C : ob_Cx} {b L : Nat} {xs : Nat → Int32} {n1 n2 n3 : Nat} {rec : ob_St → Int32 → Option ob_St} {g : ob_St} {x4 : Int32} {x : ob_St} (F : ob_Fx C cL_law 8 RL (some .boolean) 11 454) (F2 : ob_Fx (ob_w C) cL_law 8 RL (some .boolean) 11 454) (hX : ob_Sc C b L xs) (hst : (ob_cf C).1.stackTraces = false) (hr : ∀ {g : ob_St} {x4 : Int32} {x : ob_St}, rec g x4 = some x → ob_Ev (ob_w C) 23 [(0, .ref b), (1, ob_rv (ob_w C) n1), (2, ob_rv (ob_w C) n2), (3, ob_rv (ob_w C) n3), (4, .int x4)] [] g) (h : law_8 L xs n1 n2 n3 rec g x4 = some x) : ob_Ev C 472 [(0, .ref b), (1, ob_rv C n1), (2, ob_rv C n2), (3, ob_rv C n3), (4, .int x4)] [] g := by
  unfold law_8 at h
  refine ob_rload_n F 1 dL_law_472 rfl ?_
  refine ob_aload_n F 0 dL_law_473 rfl ?_
  refine ob_iload F 4 dL_law_474 rfl ?_
  refine ob_iconst F (v := 1) dL_law_476 (by decide) ?_
  refine ob_iadd F dL_law_477 ?_
  refine ob_sld F hX dL_law_478 h fun v45 h => ?_
  refine ob_aload_n F 0 dL_law_479 rfl ?_
  refine ob_iload F 4 dL_law_480 rfl ?_
  refine ob_iconst F (v := 2) dL_law_482 (by decide) ?_
  refine ob_iadd F dL_law_483 ?_
  refine ob_sld F hX dL_law_484 h fun v46 h => ?_
  refine ob_aload_n F 0 dL_law_485 rfl ?_
  refine ob_iload F 4 dL_law_486 rfl ?_
  refine ob_iconst F (v := 3) dL_law_488 (by decide) ?_
  refine ob_iadd F dL_law_489 ?_
  refine ob_sld F hX dL_law_490 h fun v47 h => ?_
  refine ob_aload_n F 0 dL_law_491 rfl ?_
  refine ob_iload F 4 dL_law_492 rfl ?_
  refine ob_iconst F (v := 4) dL_law_494 (by decide) ?_
  refine ob_iadd F dL_law_495 ?_
  refine ob_sld F hX dL_law_496 h fun v48 h => ?_
  refine ob_rload_n F 3 dL_law_497 rfl ?_
  refine ob_callH F F2 dL_law_498 ih_L_pays tw4_211 h (fun b hb => t_L_pays hst hb) rfl rfl (Nat.le_of_ble_eq_true rfl) (by decide) fun v49 h => ?_
  refine ob_istore F2 (ls2 := [(5, .int v49.1), (0, .ref b), (1, ob_rv C n1), (2, ob_rv C n2), (3, ob_rv C n3), (4, .int x4)]) dL_law_501 (by decide) rfl ?_
  refine ob_rload_n F2 3 dL_law_503 rfl ?_
  refine ob_aload_n F2 1 dL_law_504 rfl ?_
  refine ob_iload F2 5 dL_law_505 rfl ?_
  refine ob_iconst F2 (v := 1) dL_law_507 (by decide) ?_
  refine ob_iadd F2 dL_law_508 ?_
  refine ob_sld F2 (ob_Scw hX) dL_law_509 h fun v50 h => ?_
  refine ob_aload_n F2 1 dL_law_510 rfl ?_
  refine ob_iload F2 5 dL_law_511 rfl ?_
  refine ob_iconst F2 (v := 2) dL_law_513 (by decide) ?_
  refine ob_iadd F2 dL_law_514 ?_
  refine ob_sld F2 (ob_Scw hX) dL_law_515 h fun v51 h => ?_
  refine ob_aload_n F2 1 dL_law_516 rfl ?_
  refine ob_iload F2 5 dL_law_517 rfl ?_
  refine ob_iconst F2 (v := 3) dL_law_519 (by decide) ?_
  refine ob_iadd F2 dL_law_520 ?_
  refine ob_sld F2 (ob_Scw hX) dL_law_521 h fun v52 h => ?_
  refine ob_aload_n F2 1 dL_law_522 rfl ?_
  refine ob_iload F2 5 dL_law_523 rfl ?_
  refine ob_iconst F2 (v := 4) dL_law_525 (by decide) ?_
  refine ob_iadd F2 dL_law_526 ?_
  refine ob_sld F2 (ob_Scw hX) dL_law_527 h fun v53 h => ?_
  refine ob_cVlS F2 dL_law_528 im_X12_pays tw6_174 h (fun b hb => t_X12_pays hb) rfl rfl (Nat.le_of_ble_eq_true rfl) (by decide) fun v54 h => ?_
  refine ob_lstore F2 (ls2 := [(6, .long v54.1), (5, .int v49.1), (0, .ref b), (1, ob_rv C n1), (2, ob_rv C n2), (3, ob_rv C n3), (4, .int x4)]) dL_law_531 (by decide) rfl ?_
  refine ob_rload_n F2 4 dL_law_533 rfl ?_
  refine ob_cVi F2 dL_law_534 im_X12_thrown tw5_168 h (fun b hb => t_X12_thrown hb) rfl rfl (Nat.le_of_ble_eq_true rfl) (by decide) fun v55 h => ?_
  refine ob_iload F2 1 dL_law_537 rfl ?_
  refine ob_icmp_eq F2 544 dL_law_539 (by decide) h (fun h => ?_) (fun h => ?_)
  · refine ob_iload F2 1 dL_law_544 rfl ?_
    refine ob_if_ne F2 560 dL_law_546 (by decide) h (fun h => ?_) (fun h => ?_)
    · refine ob_goto F2 2090 dL_law_560 (by decide) ?_
      exact ob_sub [2, 3, 4, 5, 6] rfl (law_end F2 hr h)
    · refine ob_rload_n F2 5 dL_law_549 rfl ?_
      refine ob_iconst F2 (v := 0) dL_law_550 (by decide) ?_
      refine ob_lald F2 dL_law_551 h fun v56 h => ?_
      refine ob_lload F2 0 dL_law_552 rfl ?_
      refine ob_lcmp_eq F2 560 dL_law_554 dL_law_555 (by decide) h (fun h => ?_) (fun h => ?_)
      · refine ob_goto F2 2090 dL_law_560 (by decide) ?_
        exact ob_sub [2, 3, 4, 5, 6] rfl (law_end F2 hr h)
      · exact ob_no h
  · exact ob_no h
def law_9 (L : Nat) (xs : Nat → Int32) (n1 n2 n3 : Nat) (rec : ob_St → Int32 → Option ob_St) (g : ob_St) (x4 : Int32) : Option ob_St :=
  (ob_sI L xs (x4 + 1)).bind fun v57 => (ob_sI L xs (x4 + 2)).bind fun v58 => (ob_sI L xs (x4 + 3)).bind fun v59 => (ob_sI L xs (x4 + 4)).bind fun v60 => (f_L_value g n1 v57 v58 v59 v60 n3).bind fun v61 => (ob_sI L xs (x4 + 1)).bind fun v62 => (ob_sI L xs (x4 + 2)).bind fun v63 => (ob_sI L xs (x4 + 3)).bind fun v64 => (ob_sI L xs (x4 + 4)).bind fun v65 => (ob_ck 12 n2 (f_X12_value v61.2 n2 v62 v63 v64 v65)).bind fun v66 => (ob_ck 12 n2 (f_X12_thrown v66.2 n2)).bind fun v67 => (if v67 = v61.1 then ((if v61.1 = 0 then ((ob_rL v66.2 n3 0).bind fun v68 => (if v68 = v66.1 then (rec v66.2 (x4 + 6)) else (none))) else (rec v66.2 (x4 + 6)))) else (none))
theorem law_t9 {C : ob_Cx} {b L : Nat} {xs : Nat → Int32} {n1 n2 n3 : Nat} {rec : ob_St → Int32 → Option ob_St} {g : ob_St} {x4 : Int32} {x : ob_St} (F : ob_Fx C cL_law 8 RL (some .boolean) 11 454) (F2 : ob_Fx (ob_w C) cL_law 8 RL (some .boolean) 11 454) (hX : ob_Sc C b L xs) (hst : (ob_cf C).1.stackTraces = false) (hr : ∀ {g : ob_St} {x4 : Int32} {x : ob_St}, rec g x4 = some x → ob_Ev (ob_w C) 23 [(0, .ref b), (1, ob_rv (ob_w C) n1), (2, ob_rv (ob_w C) n2), (3, ob_rv (ob_w C) n3), (4, .int x4)] [] g) (h : law_9 L xs n1 n2 n3 rec g x4 = some x) : ob_Ev C 563 [(0, .ref b), (1, ob_rv C n1), (2, ob_rv C n2), (3, ob_rv C n3), (4, .int x4)] [] g := by
  unfold law_9 at h
  refine ob_rload_n F 1 dL_law_563 rfl ?_
  refine ob_aload_n F 0 dL_law_564 rfl ?_
  refine ob_iload F 4 dL_law_565 rfl ?_
  refine ob_iconst F (v := 1) dL_law_567 (by decide) ?_
  refine ob_iadd F dL_law_568 ?_
  refine ob_sld F hX dL_law_569 h fun v57 h => ?_
  refine ob_aload_n F 0 dL_law_570 rfl ?_
  refine ob_iload F 4 dL_law_571 rfl ?_
  refine ob_iconst F (v := 2) dL_law_573 (by decide) ?_
  refine ob_iadd F dL_law_574 ?_
  refine ob_sld F hX dL_law_575 h fun v58 h => ?_
  refine ob_aload_n F 0 dL_law_576 rfl ?_
  refine ob_iload F 4 dL_law_577 rfl ?_
  refine ob_iconst F (v := 3) dL_law_579 (by decide) ?_
  refine ob_iadd F dL_law_580 ?_
  refine ob_sld F hX dL_law_581 h fun v59 h => ?_
  refine ob_aload_n F 0 dL_law_582 rfl ?_
  refine ob_iload F 4 dL_law_583 rfl ?_
  refine ob_iconst F (v := 4) dL_law_585 (by decide) ?_
  refine ob_iadd F dL_law_586 ?_
  refine ob_sld F hX dL_law_587 h fun v60 h => ?_
  refine ob_rload_n F 3 dL_law_588 rfl ?_
  refine ob_callH F F2 dL_law_589 ih_L_value tw5_52 h (fun b hb => t_L_value hst hb) rfl rfl (Nat.le_of_ble_eq_true rfl) (by decide) fun v61 h => ?_
  refine ob_istore F2 (ls2 := [(5, .int v61.1), (0, .ref b), (1, ob_rv C n1), (2, ob_rv C n2), (3, ob_rv C n3), (4, .int x4)]) dL_law_592 (by decide) rfl ?_
  refine ob_rload_n F2 3 dL_law_594 rfl ?_
  refine ob_aload_n F2 1 dL_law_595 rfl ?_
  refine ob_iload F2 5 dL_law_596 rfl ?_
  refine ob_iconst F2 (v := 1) dL_law_598 (by decide) ?_
  refine ob_iadd F2 dL_law_599 ?_
  refine ob_sld F2 (ob_Scw hX) dL_law_600 h fun v62 h => ?_
  refine ob_aload_n F2 1 dL_law_601 rfl ?_
  refine ob_iload F2 5 dL_law_602 rfl ?_
  refine ob_iconst F2 (v := 2) dL_law_604 (by decide) ?_
  refine ob_iadd F2 dL_law_605 ?_
  refine ob_sld F2 (ob_Scw hX) dL_law_606 h fun v63 h => ?_
  refine ob_aload_n F2 1 dL_law_607 rfl ?_
  refine ob_iload F2 5 dL_law_608 rfl ?_
  refine ob_iconst F2 (v := 3) dL_law_610 (by decide) ?_
  refine ob_iadd F2 dL_law_611 ?_
  refine ob_sld F2 (ob_Scw hX) dL_law_612 h fun v64 h => ?_
  refine ob_aload_n F2 1 dL_law_613 rfl ?_
  refine ob_iload F2 5 dL_law_614 rfl ?_
  refine ob_iconst F2 (v := 4) dL_law_616 (by decide) ?_
  refine ob_iadd F2 dL_law_617 ?_
  refine ob_sld F2 (ob_Scw hX) dL_law_618 h fun v65 h => ?_
  refine ob_cVlS F2 dL_law_619 im_X12_value tw6_237 h (fun b hb => t_X12_value hb) rfl rfl (Nat.le_of_ble_eq_true rfl) (by decide) fun v66 h => ?_
  refine ob_lstore F2 (ls2 := [(6, .long v66.1), (5, .int v61.1), (0, .ref b), (1, ob_rv C n1), (2, ob_rv C n2), (3, ob_rv C n3), (4, .int x4)]) dL_law_622 (by decide) rfl ?_
  refine ob_rload_n F2 4 dL_law_624 rfl ?_
  refine ob_cVi F2 dL_law_625 im_X12_thrown tw5_168 h (fun b hb => t_X12_thrown hb) rfl rfl (Nat.le_of_ble_eq_true rfl) (by decide) fun v67 h => ?_
  refine ob_iload F2 1 dL_law_628 rfl ?_
  refine ob_icmp_eq F2 635 dL_law_630 (by decide) h (fun h => ?_) (fun h => ?_)
  · refine ob_iload F2 1 dL_law_635 rfl ?_
    refine ob_if_ne F2 651 dL_law_637 (by decide) h (fun h => ?_) (fun h => ?_)
    · refine ob_goto F2 2090 dL_law_651 (by decide) ?_
      exact ob_sub [2, 3, 4, 5, 6] rfl (law_end F2 hr h)
    · refine ob_rload_n F2 5 dL_law_640 rfl ?_
      refine ob_iconst F2 (v := 0) dL_law_641 (by decide) ?_
      refine ob_lald F2 dL_law_642 h fun v68 h => ?_
      refine ob_lload F2 0 dL_law_643 rfl ?_
      refine ob_lcmp_eq F2 651 dL_law_645 dL_law_646 (by decide) h (fun h => ?_) (fun h => ?_)
      · refine ob_goto F2 2090 dL_law_651 (by decide) ?_
        exact ob_sub [2, 3, 4, 5, 6] rfl (law_end F2 hr h)
      · exact ob_no h
  · exact ob_no h
def law_10 (L : Nat) (xs : Nat → Int32) (n1 n2 n3 : Nat) (rec : ob_St → Int32 → Option ob_St) (g : ob_St) (x4 : Int32) : Option ob_St :=
  (ob_sI L xs (x4 + 1)).bind fun v69 => (ob_sI L xs (x4 + 2)).bind fun v70 => (ob_sI L xs (x4 + 3)).bind fun v71 => (ob_sI L xs (x4 + 4)).bind fun v72 => (f_L_plain g n1 v69 v70 v71 v72 n3).bind fun v73 => (ob_sI L xs (x4 + 1)).bind fun v74 => (ob_sI L xs (x4 + 2)).bind fun v75 => (ob_sI L xs (x4 + 3)).bind fun v76 => (ob_sI L xs (x4 + 4)).bind fun v77 => (ob_ck 12 n2 (f_X12_plain v73.2 n2 v74 v75 v76 v77)).bind fun v78 => (ob_ck 12 n2 (f_X12_thrown v78.2 n2)).bind fun v79 => (if v79 = v73.1 then ((if v73.1 = 0 then ((ob_rL v78.2 n3 0).bind fun v80 => (if v80 = v78.1 then (rec v78.2 (x4 + 6)) else (none))) else (rec v78.2 (x4 + 6)))) else (none))
theorem law_t10 {C : ob_Cx} {b L : Nat} {xs : Nat → Int32} {n1 n2 n3 : Nat} {rec : ob_St → Int32 → Option ob_St} {g : ob_St} {x4 : Int32} {x : ob_St} (F : ob_Fx C cL_law 8 RL (some .boolean) 11 454) (F2 : ob_Fx (ob_w C) cL_law 8 RL (some .boolean) 11 454) (hX : ob_Sc C b L xs) (hst : (ob_cf C).1.stackTraces = false) (hr : ∀ {g : ob_St} {x4 : Int32} {x : ob_St}, rec g x4 = some x → ob_Ev (ob_w C) 23 [(0, .ref b), (1, ob_rv (ob_w C) n1), (2, ob_rv (ob_w C) n2), (3, ob_rv (ob_w C) n3), (4, .int x4)] [] g) (h : law_10 L xs n1 n2 n3 rec g x4 = some x) : ob_Ev C 654 [(0, .ref b), (1, ob_rv C n1), (2, ob_rv C n2), (3, ob_rv C n3), (4, .int x4)] [] g := by
  unfold law_10 at h
  refine ob_rload_n F 1 dL_law_654 rfl ?_
  refine ob_aload_n F 0 dL_law_655 rfl ?_
  refine ob_iload F 4 dL_law_656 rfl ?_
  refine ob_iconst F (v := 1) dL_law_658 (by decide) ?_
  refine ob_iadd F dL_law_659 ?_
  refine ob_sld F hX dL_law_660 h fun v69 h => ?_
  refine ob_aload_n F 0 dL_law_661 rfl ?_
  refine ob_iload F 4 dL_law_662 rfl ?_
  refine ob_iconst F (v := 2) dL_law_664 (by decide) ?_
  refine ob_iadd F dL_law_665 ?_
  refine ob_sld F hX dL_law_666 h fun v70 h => ?_
  refine ob_aload_n F 0 dL_law_667 rfl ?_
  refine ob_iload F 4 dL_law_668 rfl ?_
  refine ob_iconst F (v := 3) dL_law_670 (by decide) ?_
  refine ob_iadd F dL_law_671 ?_
  refine ob_sld F hX dL_law_672 h fun v71 h => ?_
  refine ob_aload_n F 0 dL_law_673 rfl ?_
  refine ob_iload F 4 dL_law_674 rfl ?_
  refine ob_iconst F (v := 4) dL_law_676 (by decide) ?_
  refine ob_iadd F dL_law_677 ?_
  refine ob_sld F hX dL_law_678 h fun v72 h => ?_
  refine ob_rload_n F 3 dL_law_679 rfl ?_
  refine ob_callH F F2 dL_law_680 ih_L_plain tw5_59 h (fun b hb => t_L_plain hst hb) rfl rfl (Nat.le_of_ble_eq_true rfl) (by decide) fun v73 h => ?_
  refine ob_istore F2 (ls2 := [(5, .int v73.1), (0, .ref b), (1, ob_rv C n1), (2, ob_rv C n2), (3, ob_rv C n3), (4, .int x4)]) dL_law_683 (by decide) rfl ?_
  refine ob_rload_n F2 3 dL_law_685 rfl ?_
  refine ob_aload_n F2 1 dL_law_686 rfl ?_
  refine ob_iload F2 5 dL_law_687 rfl ?_
  refine ob_iconst F2 (v := 1) dL_law_689 (by decide) ?_
  refine ob_iadd F2 dL_law_690 ?_
  refine ob_sld F2 (ob_Scw hX) dL_law_691 h fun v74 h => ?_
  refine ob_aload_n F2 1 dL_law_692 rfl ?_
  refine ob_iload F2 5 dL_law_693 rfl ?_
  refine ob_iconst F2 (v := 2) dL_law_695 (by decide) ?_
  refine ob_iadd F2 dL_law_696 ?_
  refine ob_sld F2 (ob_Scw hX) dL_law_697 h fun v75 h => ?_
  refine ob_aload_n F2 1 dL_law_698 rfl ?_
  refine ob_iload F2 5 dL_law_699 rfl ?_
  refine ob_iconst F2 (v := 3) dL_law_701 (by decide) ?_
  refine ob_iadd F2 dL_law_702 ?_
  refine ob_sld F2 (ob_Scw hX) dL_law_703 h fun v76 h => ?_
  refine ob_aload_n F2 1 dL_law_704 rfl ?_
  refine ob_iload F2 5 dL_law_705 rfl ?_
  refine ob_iconst F2 (v := 4) dL_law_707 (by decide) ?_
  refine ob_iadd F2 dL_law_708 ?_
  refine ob_sld F2 (ob_Scw hX) dL_law_709 h fun v77 h => ?_
  refine ob_cVlS F2 dL_law_710 im_X12_plain tw7_1 h (fun b hb => t_X12_plain hb) rfl rfl (Nat.le_of_ble_eq_true rfl) (by decide) fun v78 h => ?_
  refine ob_lstore F2 (ls2 := [(6, .long v78.1), (5, .int v73.1), (0, .ref b), (1, ob_rv C n1), (2, ob_rv C n2), (3, ob_rv C n3), (4, .int x4)]) dL_law_713 (by decide) rfl ?_
  refine ob_rload_n F2 4 dL_law_715 rfl ?_
  refine ob_cVi F2 dL_law_716 im_X12_thrown tw5_168 h (fun b hb => t_X12_thrown hb) rfl rfl (Nat.le_of_ble_eq_true rfl) (by decide) fun v79 h => ?_
  refine ob_iload F2 1 dL_law_719 rfl ?_
  refine ob_icmp_eq F2 726 dL_law_721 (by decide) h (fun h => ?_) (fun h => ?_)
  · refine ob_iload F2 1 dL_law_726 rfl ?_
    refine ob_if_ne F2 742 dL_law_728 (by decide) h (fun h => ?_) (fun h => ?_)
    · refine ob_goto F2 2090 dL_law_742 (by decide) ?_
      exact ob_sub [2, 3, 4, 5, 6] rfl (law_end F2 hr h)
    · refine ob_rload_n F2 5 dL_law_731 rfl ?_
      refine ob_iconst F2 (v := 0) dL_law_732 (by decide) ?_
      refine ob_lald F2 dL_law_733 h fun v80 h => ?_
      refine ob_lload F2 0 dL_law_734 rfl ?_
      refine ob_lcmp_eq F2 742 dL_law_736 dL_law_737 (by decide) h (fun h => ?_) (fun h => ?_)
      · refine ob_goto F2 2090 dL_law_742 (by decide) ?_
        exact ob_sub [2, 3, 4, 5, 6] rfl (law_end F2 hr h)
      · exact ob_no h
  · exact ob_no h
def law_11 (L : Nat) (xs : Nat → Int32) (n1 n2 n3 : Nat) (rec : ob_St → Int32 → Option ob_St) (g : ob_St) (x4 : Int32) : Option ob_St :=
  (ob_sI L xs (x4 + 1)).bind fun v81 => (ob_sI L xs (x4 + 2)).bind fun v82 => (ob_sI L xs (x4 + 3)).bind fun v83 => (ob_sI L xs (x4 + 4)).bind fun v84 => (f_L_held g n1 v81 v82 v83 v84 n3).bind fun v85 => (ob_sI L xs (x4 + 1)).bind fun v86 => (ob_sI L xs (x4 + 2)).bind fun v87 => (ob_sI L xs (x4 + 3)).bind fun v88 => (ob_sI L xs (x4 + 4)).bind fun v89 => (ob_ck 12 n2 (f_X12_held v85.2 n2 v86 v87 v88 v89)).bind fun v90 => (ob_ck 12 n2 (f_X12_thrown v90.2 n2)).bind fun v91 => (if v91 = v85.1 then ((if v85.1 = 0 then ((ob_rL v90.2 n3 0).bind fun v92 => (if v92 = v90.1 then (rec v90.2 (x4 + 6)) else (none))) else (rec v90.2 (x4 + 6)))) else (none))
theorem law_t11 {C : ob_Cx} {b L : Nat} {xs : Nat → Int32} {n1 n2 n3 : Nat} {rec : ob_St → Int32 → Option ob_St} {g : ob_St} {x4 : Int32} {x : ob_St} (F : ob_Fx C cL_law 8 RL (some .boolean) 11 454) (F2 : ob_Fx (ob_w C) cL_law 8 RL (some .boolean) 11 454) (hX : ob_Sc C b L xs) (hst : (ob_cf C).1.stackTraces = false) (hr : ∀ {g : ob_St} {x4 : Int32} {x : ob_St}, rec g x4 = some x → ob_Ev (ob_w C) 23 [(0, .ref b), (1, ob_rv (ob_w C) n1), (2, ob_rv (ob_w C) n2), (3, ob_rv (ob_w C) n3), (4, .int x4)] [] g) (h : law_11 L xs n1 n2 n3 rec g x4 = some x) : ob_Ev C 745 [(0, .ref b), (1, ob_rv C n1), (2, ob_rv C n2), (3, ob_rv C n3), (4, .int x4)] [] g := by
  unfold law_11 at h
  refine ob_rload_n F 1 dL_law_745 rfl ?_
  refine ob_aload_n F 0 dL_law_746 rfl ?_
  refine ob_iload F 4 dL_law_747 rfl ?_
  refine ob_iconst F (v := 1) dL_law_749 (by decide) ?_
  refine ob_iadd F dL_law_750 ?_
  refine ob_sld F hX dL_law_751 h fun v81 h => ?_
  refine ob_aload_n F 0 dL_law_752 rfl ?_
  refine ob_iload F 4 dL_law_753 rfl ?_
  refine ob_iconst F (v := 2) dL_law_755 (by decide) ?_
  refine ob_iadd F dL_law_756 ?_
  refine ob_sld F hX dL_law_757 h fun v82 h => ?_
  refine ob_aload_n F 0 dL_law_758 rfl ?_
  refine ob_iload F 4 dL_law_759 rfl ?_
  refine ob_iconst F (v := 3) dL_law_761 (by decide) ?_
  refine ob_iadd F dL_law_762 ?_
  refine ob_sld F hX dL_law_763 h fun v83 h => ?_
  refine ob_aload_n F 0 dL_law_764 rfl ?_
  refine ob_iload F 4 dL_law_765 rfl ?_
  refine ob_iconst F (v := 4) dL_law_767 (by decide) ?_
  refine ob_iadd F dL_law_768 ?_
  refine ob_sld F hX dL_law_769 h fun v84 h => ?_
  refine ob_rload_n F 3 dL_law_770 rfl ?_
  refine ob_callH F F2 dL_law_771 ih_L_held tw5_66 h (fun b hb => t_L_held hst hb) rfl rfl (Nat.le_of_ble_eq_true rfl) (by decide) fun v85 h => ?_
  refine ob_istore F2 (ls2 := [(5, .int v85.1), (0, .ref b), (1, ob_rv C n1), (2, ob_rv C n2), (3, ob_rv C n3), (4, .int x4)]) dL_law_774 (by decide) rfl ?_
  refine ob_rload_n F2 3 dL_law_776 rfl ?_
  refine ob_aload_n F2 1 dL_law_777 rfl ?_
  refine ob_iload F2 5 dL_law_778 rfl ?_
  refine ob_iconst F2 (v := 1) dL_law_780 (by decide) ?_
  refine ob_iadd F2 dL_law_781 ?_
  refine ob_sld F2 (ob_Scw hX) dL_law_782 h fun v86 h => ?_
  refine ob_aload_n F2 1 dL_law_783 rfl ?_
  refine ob_iload F2 5 dL_law_784 rfl ?_
  refine ob_iconst F2 (v := 2) dL_law_786 (by decide) ?_
  refine ob_iadd F2 dL_law_787 ?_
  refine ob_sld F2 (ob_Scw hX) dL_law_788 h fun v87 h => ?_
  refine ob_aload_n F2 1 dL_law_789 rfl ?_
  refine ob_iload F2 5 dL_law_790 rfl ?_
  refine ob_iconst F2 (v := 3) dL_law_792 (by decide) ?_
  refine ob_iadd F2 dL_law_793 ?_
  refine ob_sld F2 (ob_Scw hX) dL_law_794 h fun v88 h => ?_
  refine ob_aload_n F2 1 dL_law_795 rfl ?_
  refine ob_iload F2 5 dL_law_796 rfl ?_
  refine ob_iconst F2 (v := 4) dL_law_798 (by decide) ?_
  refine ob_iadd F2 dL_law_799 ?_
  refine ob_sld F2 (ob_Scw hX) dL_law_800 h fun v89 h => ?_
  refine ob_cVlS F2 dL_law_801 im_X12_held tw7_5 h (fun b hb => t_X12_held hb) rfl rfl (Nat.le_of_ble_eq_true rfl) (by decide) fun v90 h => ?_
  refine ob_lstore F2 (ls2 := [(6, .long v90.1), (5, .int v85.1), (0, .ref b), (1, ob_rv C n1), (2, ob_rv C n2), (3, ob_rv C n3), (4, .int x4)]) dL_law_804 (by decide) rfl ?_
  refine ob_rload_n F2 4 dL_law_806 rfl ?_
  refine ob_cVi F2 dL_law_807 im_X12_thrown tw5_168 h (fun b hb => t_X12_thrown hb) rfl rfl (Nat.le_of_ble_eq_true rfl) (by decide) fun v91 h => ?_
  refine ob_iload F2 1 dL_law_810 rfl ?_
  refine ob_icmp_eq F2 817 dL_law_812 (by decide) h (fun h => ?_) (fun h => ?_)
  · refine ob_iload F2 1 dL_law_817 rfl ?_
    refine ob_if_ne F2 833 dL_law_819 (by decide) h (fun h => ?_) (fun h => ?_)
    · refine ob_goto F2 2090 dL_law_833 (by decide) ?_
      exact ob_sub [2, 3, 4, 5, 6] rfl (law_end F2 hr h)
    · refine ob_rload_n F2 5 dL_law_822 rfl ?_
      refine ob_iconst F2 (v := 0) dL_law_823 (by decide) ?_
      refine ob_lald F2 dL_law_824 h fun v92 h => ?_
      refine ob_lload F2 0 dL_law_825 rfl ?_
      refine ob_lcmp_eq F2 833 dL_law_827 dL_law_828 (by decide) h (fun h => ?_) (fun h => ?_)
      · refine ob_goto F2 2090 dL_law_833 (by decide) ?_
        exact ob_sub [2, 3, 4, 5, 6] rfl (law_end F2 hr h)
      · exact ob_no h
  · exact ob_no h
def law_12 (L : Nat) (xs : Nat → Int32) (n1 n2 n3 : Nat) (rec : ob_St → Int32 → Option ob_St) (g : ob_St) (x4 : Int32) : Option ob_St :=
  (ob_sI L xs (x4 + 1)).bind fun v93 => (ob_sI L xs (x4 + 2)).bind fun v94 => (ob_sI L xs (x4 + 3)).bind fun v95 => (ob_ck 11 n1 (f_X11_does g n1 v93 v94 v95)).bind fun v96 => (ob_sI L xs (x4 + 1)).bind fun v97 => (ob_sI L xs (x4 + 2)).bind fun v98 => (ob_sI L xs (x4 + 3)).bind fun v99 => (ob_ck 12 n2 (f_X12_does v96.2 n2 v97 v98 v99)).bind fun v100 => (if v96.1 = v100.1 then (rec v100.2 (x4 + 6)) else (none))
theorem law_t12 {C : ob_Cx} {b L : Nat} {xs : Nat → Int32} {n1 n2 n3 : Nat} {rec : ob_St → Int32 → Option ob_St} {g : ob_St} {x4 : Int32} {x : ob_St} (F : ob_Fx C cL_law 8 RL (some .boolean) 11 454) (F2 : ob_Fx (ob_w C) cL_law 8 RL (some .boolean) 11 454) (hX : ob_Sc C b L xs) (hst : (ob_cf C).1.stackTraces = false) (hr : ∀ {g : ob_St} {x4 : Int32} {x : ob_St}, rec g x4 = some x → ob_Ev (ob_w C) 23 [(0, .ref b), (1, ob_rv (ob_w C) n1), (2, ob_rv (ob_w C) n2), (3, ob_rv (ob_w C) n3), (4, .int x4)] [] g) (h : law_12 L xs n1 n2 n3 rec g x4 = some x) : ob_Ev C 836 [(0, .ref b), (1, ob_rv C n1), (2, ob_rv C n2), (3, ob_rv C n3), (4, .int x4)] [] g := by
  unfold law_12 at h
  refine ob_rload_n F 1 dL_law_836 rfl ?_
  refine ob_aload_n F 0 dL_law_837 rfl ?_
  refine ob_iload F 4 dL_law_838 rfl ?_
  refine ob_iconst F (v := 1) dL_law_840 (by decide) ?_
  refine ob_iadd F dL_law_841 ?_
  refine ob_sld F hX dL_law_842 h fun v93 h => ?_
  refine ob_aload_n F 0 dL_law_843 rfl ?_
  refine ob_iload F 4 dL_law_844 rfl ?_
  refine ob_iconst F (v := 2) dL_law_846 (by decide) ?_
  refine ob_iadd F dL_law_847 ?_
  refine ob_sld F hX dL_law_848 h fun v94 h => ?_
  refine ob_aload_n F 0 dL_law_849 rfl ?_
  refine ob_iload F 4 dL_law_850 rfl ?_
  refine ob_iconst F (v := 3) dL_law_852 (by decide) ?_
  refine ob_iadd F dL_law_853 ?_
  refine ob_sld F hX dL_law_854 h fun v95 h => ?_
  refine ob_cViS F dL_law_855 im_X11_does tw4_26 h (fun b hb => t_X11_does hb) rfl rfl (Nat.le_of_ble_eq_true rfl) (by decide) fun v96 h => ?_
  refine ob_rload_n F 2 dL_law_858 rfl ?_
  refine ob_aload_n F 0 dL_law_859 rfl ?_
  refine ob_iload F 4 dL_law_860 rfl ?_
  refine ob_iconst F (v := 1) dL_law_862 (by decide) ?_
  refine ob_iadd F dL_law_863 ?_
  refine ob_sld F hX dL_law_864 h fun v97 h => ?_
  refine ob_aload_n F 0 dL_law_865 rfl ?_
  refine ob_iload F 4 dL_law_866 rfl ?_
  refine ob_iconst F (v := 2) dL_law_868 (by decide) ?_
  refine ob_iadd F dL_law_869 ?_
  refine ob_sld F hX dL_law_870 h fun v98 h => ?_
  refine ob_aload_n F 0 dL_law_871 rfl ?_
  refine ob_iload F 4 dL_law_872 rfl ?_
  refine ob_iconst F (v := 3) dL_law_874 (by decide) ?_
  refine ob_iadd F dL_law_875 ?_
  refine ob_sld F hX dL_law_876 h fun v99 h => ?_
  refine ob_cViS F dL_law_877 im_X12_does tw7_9 h (fun b hb => t_X12_does hb) rfl rfl (Nat.le_of_ble_eq_true rfl) (by decide) fun v100 h => ?_
  refine ob_icmp_eq F 2090 dL_law_880 (by decide) h (fun h => ?_) (fun h => ?_)
  · exact ob_wd (law_end F2 hr h)
  · exact ob_no h
def law_13 (L : Nat) (xs : Nat → Int32) (n1 n2 n3 : Nat) (rec : ob_St → Int32 → Option ob_St) (g : ob_St) (x4 : Int32) : Option ob_St :=
  (ob_sI L xs (x4 + 1)).bind fun v101 => (ob_sI L xs (x4 + 2)).bind fun v102 => (ob_sI L xs (x4 + 3)).bind fun v103 => (ob_sI L xs (x4 + 4)).bind fun v104 => (f_L_stands g n1 v101 v102 v103 v104 n3).bind fun v105 => (ob_sI L xs (x4 + 1)).bind fun v106 => (ob_sI L xs (x4 + 2)).bind fun v107 => (ob_sI L xs (x4 + 3)).bind fun v108 => (ob_sI L xs (x4 + 4)).bind fun v109 => (ob_ck 12 n2 (f_X12_stands v105.2 n2 v106 v107 v108 v109)).bind fun v110 => (ob_ck 12 n2 (f_X12_thrown v110.2 n2)).bind fun v111 => (if v111 = v105.1 then ((if v105.1 = 0 then ((ob_rL v110.2 n3 0).bind fun v112 => (if v112 = v110.1 then (rec v110.2 (x4 + 6)) else (none))) else (rec v110.2 (x4 + 6)))) else (none))
theorem law_t13 {C : ob_Cx} {b L : Nat} {xs : Nat → Int32} {n1 n2 n3 : Nat} {rec : ob_St → Int32 → Option ob_St} {g : ob_St} {x4 : Int32} {x : ob_St} (F : ob_Fx C cL_law 8 RL (some .boolean) 11 454) (F2 : ob_Fx (ob_w C) cL_law 8 RL (some .boolean) 11 454) (hX : ob_Sc C b L xs) (hst : (ob_cf C).1.stackTraces = false) (hr : ∀ {g : ob_St} {x4 : Int32} {x : ob_St}, rec g x4 = some x → ob_Ev (ob_w C) 23 [(0, .ref b), (1, ob_rv (ob_w C) n1), (2, ob_rv (ob_w C) n2), (3, ob_rv (ob_w C) n3), (4, .int x4)] [] g) (h : law_13 L xs n1 n2 n3 rec g x4 = some x) : ob_Ev C 885 [(0, .ref b), (1, ob_rv C n1), (2, ob_rv C n2), (3, ob_rv C n3), (4, .int x4)] [] g := by
  unfold law_13 at h
  refine ob_rload_n F 1 dL_law_885 rfl ?_
  refine ob_aload_n F 0 dL_law_886 rfl ?_
  refine ob_iload F 4 dL_law_887 rfl ?_
  refine ob_iconst F (v := 1) dL_law_889 (by decide) ?_
  refine ob_iadd F dL_law_890 ?_
  refine ob_sld F hX dL_law_891 h fun v101 h => ?_
  refine ob_aload_n F 0 dL_law_892 rfl ?_
  refine ob_iload F 4 dL_law_893 rfl ?_
  refine ob_iconst F (v := 2) dL_law_895 (by decide) ?_
  refine ob_iadd F dL_law_896 ?_
  refine ob_sld F hX dL_law_897 h fun v102 h => ?_
  refine ob_aload_n F 0 dL_law_898 rfl ?_
  refine ob_iload F 4 dL_law_899 rfl ?_
  refine ob_iconst F (v := 3) dL_law_901 (by decide) ?_
  refine ob_iadd F dL_law_902 ?_
  refine ob_sld F hX dL_law_903 h fun v103 h => ?_
  refine ob_aload_n F 0 dL_law_904 rfl ?_
  refine ob_iload F 4 dL_law_905 rfl ?_
  refine ob_iconst F (v := 4) dL_law_907 (by decide) ?_
  refine ob_iadd F dL_law_908 ?_
  refine ob_sld F hX dL_law_909 h fun v104 h => ?_
  refine ob_rload_n F 3 dL_law_910 rfl ?_
  refine ob_callH F F2 dL_law_911 ih_L_stands tw5_74 h (fun b hb => t_L_stands hst hb) rfl rfl (Nat.le_of_ble_eq_true rfl) (by decide) fun v105 h => ?_
  refine ob_istore F2 (ls2 := [(5, .int v105.1), (0, .ref b), (1, ob_rv C n1), (2, ob_rv C n2), (3, ob_rv C n3), (4, .int x4)]) dL_law_914 (by decide) rfl ?_
  refine ob_rload_n F2 3 dL_law_916 rfl ?_
  refine ob_aload_n F2 1 dL_law_917 rfl ?_
  refine ob_iload F2 5 dL_law_918 rfl ?_
  refine ob_iconst F2 (v := 1) dL_law_920 (by decide) ?_
  refine ob_iadd F2 dL_law_921 ?_
  refine ob_sld F2 (ob_Scw hX) dL_law_922 h fun v106 h => ?_
  refine ob_aload_n F2 1 dL_law_923 rfl ?_
  refine ob_iload F2 5 dL_law_924 rfl ?_
  refine ob_iconst F2 (v := 2) dL_law_926 (by decide) ?_
  refine ob_iadd F2 dL_law_927 ?_
  refine ob_sld F2 (ob_Scw hX) dL_law_928 h fun v107 h => ?_
  refine ob_aload_n F2 1 dL_law_929 rfl ?_
  refine ob_iload F2 5 dL_law_930 rfl ?_
  refine ob_iconst F2 (v := 3) dL_law_932 (by decide) ?_
  refine ob_iadd F2 dL_law_933 ?_
  refine ob_sld F2 (ob_Scw hX) dL_law_934 h fun v108 h => ?_
  refine ob_aload_n F2 1 dL_law_935 rfl ?_
  refine ob_iload F2 5 dL_law_936 rfl ?_
  refine ob_iconst F2 (v := 4) dL_law_938 (by decide) ?_
  refine ob_iadd F2 dL_law_939 ?_
  refine ob_sld F2 (ob_Scw hX) dL_law_940 h fun v109 h => ?_
  refine ob_cVlS F2 dL_law_941 im_X12_stands tw7_13 h (fun b hb => t_X12_stands hb) rfl rfl (Nat.le_of_ble_eq_true rfl) (by decide) fun v110 h => ?_
  refine ob_lstore F2 (ls2 := [(6, .long v110.1), (5, .int v105.1), (0, .ref b), (1, ob_rv C n1), (2, ob_rv C n2), (3, ob_rv C n3), (4, .int x4)]) dL_law_944 (by decide) rfl ?_
  refine ob_rload_n F2 4 dL_law_946 rfl ?_
  refine ob_cVi F2 dL_law_947 im_X12_thrown tw5_168 h (fun b hb => t_X12_thrown hb) rfl rfl (Nat.le_of_ble_eq_true rfl) (by decide) fun v111 h => ?_
  refine ob_iload F2 1 dL_law_950 rfl ?_
  refine ob_icmp_eq F2 957 dL_law_952 (by decide) h (fun h => ?_) (fun h => ?_)
  · refine ob_iload F2 1 dL_law_957 rfl ?_
    refine ob_if_ne F2 973 dL_law_959 (by decide) h (fun h => ?_) (fun h => ?_)
    · refine ob_goto F2 2090 dL_law_973 (by decide) ?_
      exact ob_sub [2, 3, 4, 5, 6] rfl (law_end F2 hr h)
    · refine ob_rload_n F2 5 dL_law_962 rfl ?_
      refine ob_iconst F2 (v := 0) dL_law_963 (by decide) ?_
      refine ob_lald F2 dL_law_964 h fun v112 h => ?_
      refine ob_lload F2 0 dL_law_965 rfl ?_
      refine ob_lcmp_eq F2 973 dL_law_967 dL_law_968 (by decide) h (fun h => ?_) (fun h => ?_)
      · refine ob_goto F2 2090 dL_law_973 (by decide) ?_
        exact ob_sub [2, 3, 4, 5, 6] rfl (law_end F2 hr h)
      · exact ob_no h
  · exact ob_no h
def law_14 (L : Nat) (xs : Nat → Int32) (n1 n2 n3 : Nat) (rec : ob_St → Int32 → Option ob_St) (g : ob_St) (x4 : Int32) : Option ob_St :=
  (ob_sI L xs (x4 + 1)).bind fun v113 => (ob_sI L xs (x4 + 2)).bind fun v114 => (ob_ck 11 n1 (f_X11_frontier g n1 v113 v114)).bind fun v115 => (ob_sI L xs (x4 + 1)).bind fun v116 => (ob_sI L xs (x4 + 2)).bind fun v117 => (ob_ck 12 n2 (f_X12_frontier v115.2 n2 v116 v117)).bind fun v118 => (if v115.1 = v118.1 then (rec v118.2 (x4 + 6)) else (none))
theorem law_t14 {C : ob_Cx} {b L : Nat} {xs : Nat → Int32} {n1 n2 n3 : Nat} {rec : ob_St → Int32 → Option ob_St} {g : ob_St} {x4 : Int32} {x : ob_St} (F : ob_Fx C cL_law 8 RL (some .boolean) 11 454) (F2 : ob_Fx (ob_w C) cL_law 8 RL (some .boolean) 11 454) (hX : ob_Sc C b L xs) (hst : (ob_cf C).1.stackTraces = false) (hr : ∀ {g : ob_St} {x4 : Int32} {x : ob_St}, rec g x4 = some x → ob_Ev (ob_w C) 23 [(0, .ref b), (1, ob_rv (ob_w C) n1), (2, ob_rv (ob_w C) n2), (3, ob_rv (ob_w C) n3), (4, .int x4)] [] g) (h : law_14 L xs n1 n2 n3 rec g x4 = some x) : ob_Ev C 976 [(0, .ref b), (1, ob_rv C n1), (2, ob_rv C n2), (3, ob_rv C n3), (4, .int x4)] [] g := by
  unfold law_14 at h
  refine ob_rload_n F 1 dL_law_976 rfl ?_
  refine ob_aload_n F 0 dL_law_977 rfl ?_
  refine ob_iload F 4 dL_law_978 rfl ?_
  refine ob_iconst F (v := 1) dL_law_980 (by decide) ?_
  refine ob_iadd F dL_law_981 ?_
  refine ob_sld F hX dL_law_982 h fun v113 h => ?_
  refine ob_aload_n F 0 dL_law_983 rfl ?_
  refine ob_iload F 4 dL_law_984 rfl ?_
  refine ob_iconst F (v := 2) dL_law_986 (by decide) ?_
  refine ob_iadd F dL_law_987 ?_
  refine ob_sld F hX dL_law_988 h fun v114 h => ?_
  refine ob_cViS F dL_law_989 im_X11_frontier tw4_34 h (fun b hb => t_X11_frontier hb) rfl rfl (Nat.le_of_ble_eq_true rfl) (by decide) fun v115 h => ?_
  refine ob_rload_n F 2 dL_law_992 rfl ?_
  refine ob_aload_n F 0 dL_law_993 rfl ?_
  refine ob_iload F 4 dL_law_994 rfl ?_
  refine ob_iconst F (v := 1) dL_law_996 (by decide) ?_
  refine ob_iadd F dL_law_997 ?_
  refine ob_sld F hX dL_law_998 h fun v116 h => ?_
  refine ob_aload_n F 0 dL_law_999 rfl ?_
  refine ob_iload F 4 dL_law_1000 rfl ?_
  refine ob_iconst F (v := 2) dL_law_1002 (by decide) ?_
  refine ob_iadd F dL_law_1003 ?_
  refine ob_sld F hX dL_law_1004 h fun v117 h => ?_
  refine ob_cViS F dL_law_1005 im_X12_frontier tw7_25 h (fun b hb => t_X12_frontier hb) rfl rfl (Nat.le_of_ble_eq_true rfl) (by decide) fun v118 h => ?_
  refine ob_icmp_eq F 2090 dL_law_1008 (by decide) h (fun h => ?_) (fun h => ?_)
  · exact ob_wd (law_end F2 hr h)
  · exact ob_no h
def law_15 (L : Nat) (xs : Nat → Int32) (n1 n2 n3 : Nat) (rec : ob_St → Int32 → Option ob_St) (g : ob_St) (x4 : Int32) : Option ob_St :=
  (ob_sI L xs (x4 + 1)).bind fun v119 => (ob_sI L xs (x4 + 2)).bind fun v120 => (ob_sI L xs (x4 + 3)).bind fun v121 => (ob_ck 11 n1 (f_X11_ways g n1 v119 v120 v121)).bind fun v122 => (ob_sI L xs (x4 + 1)).bind fun v123 => (ob_sI L xs (x4 + 2)).bind fun v124 => (ob_sI L xs (x4 + 3)).bind fun v125 => (ob_ck 12 n2 (f_X12_ways v122.2 n2 v123 v124 v125)).bind fun v126 => (if v122.1 = v126.1 then (rec v126.2 (x4 + 6)) else (none))
theorem law_t15 {C : ob_Cx} {b L : Nat} {xs : Nat → Int32} {n1 n2 n3 : Nat} {rec : ob_St → Int32 → Option ob_St} {g : ob_St} {x4 : Int32} {x : ob_St} (F : ob_Fx C cL_law 8 RL (some .boolean) 11 454) (F2 : ob_Fx (ob_w C) cL_law 8 RL (some .boolean) 11 454) (hX : ob_Sc C b L xs) (hst : (ob_cf C).1.stackTraces = false) (hr : ∀ {g : ob_St} {x4 : Int32} {x : ob_St}, rec g x4 = some x → ob_Ev (ob_w C) 23 [(0, .ref b), (1, ob_rv (ob_w C) n1), (2, ob_rv (ob_w C) n2), (3, ob_rv (ob_w C) n3), (4, .int x4)] [] g) (h : law_15 L xs n1 n2 n3 rec g x4 = some x) : ob_Ev C 1013 [(0, .ref b), (1, ob_rv C n1), (2, ob_rv C n2), (3, ob_rv C n3), (4, .int x4)] [] g := by
  unfold law_15 at h
  refine ob_rload_n F 1 dL_law_1013 rfl ?_
  refine ob_aload_n F 0 dL_law_1014 rfl ?_
  refine ob_iload F 4 dL_law_1015 rfl ?_
  refine ob_iconst F (v := 1) dL_law_1017 (by decide) ?_
  refine ob_iadd F dL_law_1018 ?_
  refine ob_sld F hX dL_law_1019 h fun v119 h => ?_
  refine ob_aload_n F 0 dL_law_1020 rfl ?_
  refine ob_iload F 4 dL_law_1021 rfl ?_
  refine ob_iconst F (v := 2) dL_law_1023 (by decide) ?_
  refine ob_iadd F dL_law_1024 ?_
  refine ob_sld F hX dL_law_1025 h fun v120 h => ?_
  refine ob_aload_n F 0 dL_law_1026 rfl ?_
  refine ob_iload F 4 dL_law_1027 rfl ?_
  refine ob_iconst F (v := 3) dL_law_1029 (by decide) ?_
  refine ob_iadd F dL_law_1030 ?_
  refine ob_sld F hX dL_law_1031 h fun v121 h => ?_
  refine ob_cViS F dL_law_1032 im_X11_ways tw4_38 h (fun b hb => t_X11_ways hb) rfl rfl (Nat.le_of_ble_eq_true rfl) (by decide) fun v122 h => ?_
  refine ob_rload_n F 2 dL_law_1035 rfl ?_
  refine ob_aload_n F 0 dL_law_1036 rfl ?_
  refine ob_iload F 4 dL_law_1037 rfl ?_
  refine ob_iconst F (v := 1) dL_law_1039 (by decide) ?_
  refine ob_iadd F dL_law_1040 ?_
  refine ob_sld F hX dL_law_1041 h fun v123 h => ?_
  refine ob_aload_n F 0 dL_law_1042 rfl ?_
  refine ob_iload F 4 dL_law_1043 rfl ?_
  refine ob_iconst F (v := 2) dL_law_1045 (by decide) ?_
  refine ob_iadd F dL_law_1046 ?_
  refine ob_sld F hX dL_law_1047 h fun v124 h => ?_
  refine ob_aload_n F 0 dL_law_1048 rfl ?_
  refine ob_iload F 4 dL_law_1049 rfl ?_
  refine ob_iconst F (v := 3) dL_law_1051 (by decide) ?_
  refine ob_iadd F dL_law_1052 ?_
  refine ob_sld F hX dL_law_1053 h fun v125 h => ?_
  refine ob_cViS F dL_law_1054 im_X12_ways tw7_29 h (fun b hb => t_X12_ways hb) rfl rfl (Nat.le_of_ble_eq_true rfl) (by decide) fun v126 h => ?_
  refine ob_icmp_eq F 2090 dL_law_1057 (by decide) h (fun h => ?_) (fun h => ?_)
  · exact ob_wd (law_end F2 hr h)
  · exact ob_no h
def law_16 (L : Nat) (xs : Nat → Int32) (n1 n2 n3 : Nat) (rec : ob_St → Int32 → Option ob_St) (g : ob_St) (x4 : Int32) : Option ob_St :=
  (ob_sI L xs (x4 + 1)).bind fun v127 => (ob_sI L xs (x4 + 2)).bind fun v128 => (ob_sI L xs (x4 + 3)).bind fun v129 => (ob_sI L xs (x4 + 4)).bind fun v130 => (f_L_ending g n1 v127 v128 v129 v130 n3).bind fun v131 => (ob_sI L xs (x4 + 1)).bind fun v132 => (ob_sI L xs (x4 + 2)).bind fun v133 => (ob_sI L xs (x4 + 3)).bind fun v134 => (ob_sI L xs (x4 + 4)).bind fun v135 => (ob_ck 12 n2 (f_X12_ending v131.2 n2 v132 v133 v134 v135)).bind fun v136 => (ob_ck 12 n2 (f_X12_thrown v136.2 n2)).bind fun v137 => (if v137 = v131.1 then ((if v131.1 = 0 then ((ob_rL v136.2 n3 0).bind fun v138 => (if v138 = v136.1 then (rec v136.2 (x4 + 6)) else (none))) else (rec v136.2 (x4 + 6)))) else (none))
theorem law_t16 {C : ob_Cx} {b L : Nat} {xs : Nat → Int32} {n1 n2 n3 : Nat} {rec : ob_St → Int32 → Option ob_St} {g : ob_St} {x4 : Int32} {x : ob_St} (F : ob_Fx C cL_law 8 RL (some .boolean) 11 454) (F2 : ob_Fx (ob_w C) cL_law 8 RL (some .boolean) 11 454) (hX : ob_Sc C b L xs) (hst : (ob_cf C).1.stackTraces = false) (hr : ∀ {g : ob_St} {x4 : Int32} {x : ob_St}, rec g x4 = some x → ob_Ev (ob_w C) 23 [(0, .ref b), (1, ob_rv (ob_w C) n1), (2, ob_rv (ob_w C) n2), (3, ob_rv (ob_w C) n3), (4, .int x4)] [] g) (h : law_16 L xs n1 n2 n3 rec g x4 = some x) : ob_Ev C 1062 [(0, .ref b), (1, ob_rv C n1), (2, ob_rv C n2), (3, ob_rv C n3), (4, .int x4)] [] g := by
  unfold law_16 at h
  refine ob_rload_n F 1 dL_law_1062 rfl ?_
  refine ob_aload_n F 0 dL_law_1063 rfl ?_
  refine ob_iload F 4 dL_law_1064 rfl ?_
  refine ob_iconst F (v := 1) dL_law_1066 (by decide) ?_
  refine ob_iadd F dL_law_1067 ?_
  refine ob_sld F hX dL_law_1068 h fun v127 h => ?_
  refine ob_aload_n F 0 dL_law_1069 rfl ?_
  refine ob_iload F 4 dL_law_1070 rfl ?_
  refine ob_iconst F (v := 2) dL_law_1072 (by decide) ?_
  refine ob_iadd F dL_law_1073 ?_
  refine ob_sld F hX dL_law_1074 h fun v128 h => ?_
  refine ob_aload_n F 0 dL_law_1075 rfl ?_
  refine ob_iload F 4 dL_law_1076 rfl ?_
  refine ob_iconst F (v := 3) dL_law_1078 (by decide) ?_
  refine ob_iadd F dL_law_1079 ?_
  refine ob_sld F hX dL_law_1080 h fun v129 h => ?_
  refine ob_aload_n F 0 dL_law_1081 rfl ?_
  refine ob_iload F 4 dL_law_1082 rfl ?_
  refine ob_iconst F (v := 4) dL_law_1084 (by decide) ?_
  refine ob_iadd F dL_law_1085 ?_
  refine ob_sld F hX dL_law_1086 h fun v130 h => ?_
  refine ob_rload_n F 3 dL_law_1087 rfl ?_
  refine ob_callH F F2 dL_law_1088 ih_L_ending tw5_86 h (fun b hb => t_L_ending hst hb) rfl rfl (Nat.le_of_ble_eq_true rfl) (by decide) fun v131 h => ?_
  refine ob_istore F2 (ls2 := [(5, .int v131.1), (0, .ref b), (1, ob_rv C n1), (2, ob_rv C n2), (3, ob_rv C n3), (4, .int x4)]) dL_law_1091 (by decide) rfl ?_
  refine ob_rload_n F2 3 dL_law_1093 rfl ?_
  refine ob_aload_n F2 1 dL_law_1094 rfl ?_
  refine ob_iload F2 5 dL_law_1095 rfl ?_
  refine ob_iconst F2 (v := 1) dL_law_1097 (by decide) ?_
  refine ob_iadd F2 dL_law_1098 ?_
  refine ob_sld F2 (ob_Scw hX) dL_law_1099 h fun v132 h => ?_
  refine ob_aload_n F2 1 dL_law_1100 rfl ?_
  refine ob_iload F2 5 dL_law_1101 rfl ?_
  refine ob_iconst F2 (v := 2) dL_law_1103 (by decide) ?_
  refine ob_iadd F2 dL_law_1104 ?_
  refine ob_sld F2 (ob_Scw hX) dL_law_1105 h fun v133 h => ?_
  refine ob_aload_n F2 1 dL_law_1106 rfl ?_
  refine ob_iload F2 5 dL_law_1107 rfl ?_
  refine ob_iconst F2 (v := 3) dL_law_1109 (by decide) ?_
  refine ob_iadd F2 dL_law_1110 ?_
  refine ob_sld F2 (ob_Scw hX) dL_law_1111 h fun v134 h => ?_
  refine ob_aload_n F2 1 dL_law_1112 rfl ?_
  refine ob_iload F2 5 dL_law_1113 rfl ?_
  refine ob_iconst F2 (v := 4) dL_law_1115 (by decide) ?_
  refine ob_iadd F2 dL_law_1116 ?_
  refine ob_sld F2 (ob_Scw hX) dL_law_1117 h fun v135 h => ?_
  refine ob_cVlS F2 dL_law_1118 im_X12_ending tw7_48 h (fun b hb => t_X12_ending hb) rfl rfl (Nat.le_of_ble_eq_true rfl) (by decide) fun v136 h => ?_
  refine ob_lstore F2 (ls2 := [(6, .long v136.1), (5, .int v131.1), (0, .ref b), (1, ob_rv C n1), (2, ob_rv C n2), (3, ob_rv C n3), (4, .int x4)]) dL_law_1121 (by decide) rfl ?_
  refine ob_rload_n F2 4 dL_law_1123 rfl ?_
  refine ob_cVi F2 dL_law_1124 im_X12_thrown tw5_168 h (fun b hb => t_X12_thrown hb) rfl rfl (Nat.le_of_ble_eq_true rfl) (by decide) fun v137 h => ?_
  refine ob_iload F2 1 dL_law_1127 rfl ?_
  refine ob_icmp_eq F2 1134 dL_law_1129 (by decide) h (fun h => ?_) (fun h => ?_)
  · refine ob_iload F2 1 dL_law_1134 rfl ?_
    refine ob_if_ne F2 1150 dL_law_1136 (by decide) h (fun h => ?_) (fun h => ?_)
    · refine ob_goto F2 2090 dL_law_1150 (by decide) ?_
      exact ob_sub [2, 3, 4, 5, 6] rfl (law_end F2 hr h)
    · refine ob_rload_n F2 5 dL_law_1139 rfl ?_
      refine ob_iconst F2 (v := 0) dL_law_1140 (by decide) ?_
      refine ob_lald F2 dL_law_1141 h fun v138 h => ?_
      refine ob_lload F2 0 dL_law_1142 rfl ?_
      refine ob_lcmp_eq F2 1150 dL_law_1144 dL_law_1145 (by decide) h (fun h => ?_) (fun h => ?_)
      · refine ob_goto F2 2090 dL_law_1150 (by decide) ?_
        exact ob_sub [2, 3, 4, 5, 6] rfl (law_end F2 hr h)
      · exact ob_no h
  · exact ob_no h
def law_17 (L : Nat) (xs : Nat → Int32) (n1 n2 n3 : Nat) (rec : ob_St → Int32 → Option ob_St) (g : ob_St) (x4 : Int32) : Option ob_St :=
  (ob_sI L xs (x4 + 1)).bind fun v139 => (ob_sI L xs (x4 + 2)).bind fun v140 => (f_L_life g n1 v139 v140 n3).bind fun v141 => (ob_sI L xs (x4 + 1)).bind fun v142 => (ob_sI L xs (x4 + 2)).bind fun v143 => (ob_ck 12 n2 (f_X12_life v141.2 n2 v142 v143)).bind fun v144 => (ob_ck 12 n2 (f_X12_thrown v144.2 n2)).bind fun v145 => (if v145 = v141.1 then ((if v141.1 = 0 then ((ob_rL v144.2 n3 0).bind fun v146 => (if v146 = v144.1 then (rec v144.2 (x4 + 6)) else (none))) else (rec v144.2 (x4 + 6)))) else (none))
theorem law_t17 {C : ob_Cx} {b L : Nat} {xs : Nat → Int32} {n1 n2 n3 : Nat} {rec : ob_St → Int32 → Option ob_St} {g : ob_St} {x4 : Int32} {x : ob_St} (F : ob_Fx C cL_law 8 RL (some .boolean) 11 454) (F2 : ob_Fx (ob_w C) cL_law 8 RL (some .boolean) 11 454) (hX : ob_Sc C b L xs) (hst : (ob_cf C).1.stackTraces = false) (hr : ∀ {g : ob_St} {x4 : Int32} {x : ob_St}, rec g x4 = some x → ob_Ev (ob_w C) 23 [(0, .ref b), (1, ob_rv (ob_w C) n1), (2, ob_rv (ob_w C) n2), (3, ob_rv (ob_w C) n3), (4, .int x4)] [] g) (h : law_17 L xs n1 n2 n3 rec g x4 = some x) : ob_Ev C 1153 [(0, .ref b), (1, ob_rv C n1), (2, ob_rv C n2), (3, ob_rv C n3), (4, .int x4)] [] g := by
  unfold law_17 at h
  refine ob_rload_n F 1 dL_law_1153 rfl ?_
  refine ob_aload_n F 0 dL_law_1154 rfl ?_
  refine ob_iload F 4 dL_law_1155 rfl ?_
  refine ob_iconst F (v := 1) dL_law_1157 (by decide) ?_
  refine ob_iadd F dL_law_1158 ?_
  refine ob_sld F hX dL_law_1159 h fun v139 h => ?_
  refine ob_aload_n F 0 dL_law_1160 rfl ?_
  refine ob_iload F 4 dL_law_1161 rfl ?_
  refine ob_iconst F (v := 2) dL_law_1163 (by decide) ?_
  refine ob_iadd F dL_law_1164 ?_
  refine ob_sld F hX dL_law_1165 h fun v140 h => ?_
  refine ob_rload_n F 3 dL_law_1166 rfl ?_
  refine ob_callH F F2 dL_law_1167 ih_L_life tw5_97 h (fun b hb => t_L_life hst hb) rfl rfl (Nat.le_of_ble_eq_true rfl) (by decide) fun v141 h => ?_
  refine ob_istore F2 (ls2 := [(5, .int v141.1), (0, .ref b), (1, ob_rv C n1), (2, ob_rv C n2), (3, ob_rv C n3), (4, .int x4)]) dL_law_1170 (by decide) rfl ?_
  refine ob_rload_n F2 3 dL_law_1172 rfl ?_
  refine ob_aload_n F2 1 dL_law_1173 rfl ?_
  refine ob_iload F2 5 dL_law_1174 rfl ?_
  refine ob_iconst F2 (v := 1) dL_law_1176 (by decide) ?_
  refine ob_iadd F2 dL_law_1177 ?_
  refine ob_sld F2 (ob_Scw hX) dL_law_1178 h fun v142 h => ?_
  refine ob_aload_n F2 1 dL_law_1179 rfl ?_
  refine ob_iload F2 5 dL_law_1180 rfl ?_
  refine ob_iconst F2 (v := 2) dL_law_1182 (by decide) ?_
  refine ob_iadd F2 dL_law_1183 ?_
  refine ob_sld F2 (ob_Scw hX) dL_law_1184 h fun v143 h => ?_
  refine ob_cVlS F2 dL_law_1185 im_X12_life tw7_52 h (fun b hb => t_X12_life hb) rfl rfl (Nat.le_of_ble_eq_true rfl) (by decide) fun v144 h => ?_
  refine ob_lstore F2 (ls2 := [(6, .long v144.1), (5, .int v141.1), (0, .ref b), (1, ob_rv C n1), (2, ob_rv C n2), (3, ob_rv C n3), (4, .int x4)]) dL_law_1188 (by decide) rfl ?_
  refine ob_rload_n F2 4 dL_law_1190 rfl ?_
  refine ob_cVi F2 dL_law_1191 im_X12_thrown tw5_168 h (fun b hb => t_X12_thrown hb) rfl rfl (Nat.le_of_ble_eq_true rfl) (by decide) fun v145 h => ?_
  refine ob_iload F2 1 dL_law_1194 rfl ?_
  refine ob_icmp_eq F2 1201 dL_law_1196 (by decide) h (fun h => ?_) (fun h => ?_)
  · refine ob_iload F2 1 dL_law_1201 rfl ?_
    refine ob_if_ne F2 1217 dL_law_1203 (by decide) h (fun h => ?_) (fun h => ?_)
    · refine ob_goto F2 2090 dL_law_1217 (by decide) ?_
      exact ob_sub [2, 3, 4, 5, 6] rfl (law_end F2 hr h)
    · refine ob_rload_n F2 5 dL_law_1206 rfl ?_
      refine ob_iconst F2 (v := 0) dL_law_1207 (by decide) ?_
      refine ob_lald F2 dL_law_1208 h fun v146 h => ?_
      refine ob_lload F2 0 dL_law_1209 rfl ?_
      refine ob_lcmp_eq F2 1217 dL_law_1211 dL_law_1212 (by decide) h (fun h => ?_) (fun h => ?_)
      · refine ob_goto F2 2090 dL_law_1217 (by decide) ?_
        exact ob_sub [2, 3, 4, 5, 6] rfl (law_end F2 hr h)
      · exact ob_no h
  · exact ob_no h
def law_18 (L : Nat) (xs : Nat → Int32) (n1 n2 n3 : Nat) (rec : ob_St → Int32 → Option ob_St) (g : ob_St) (x4 : Int32) : Option ob_St :=
  (ob_sI L xs (x4 + 1)).bind fun v147 => (ob_sI L xs (x4 + 2)).bind fun v148 => (ob_sI L xs (x4 + 3)).bind fun v149 => (ob_sI L xs (x4 + 4)).bind fun v150 => (f_L_gain g n1 v147 v148 v149 v150 n3).bind fun v151 => (ob_sI L xs (x4 + 1)).bind fun v152 => (ob_sI L xs (x4 + 2)).bind fun v153 => (ob_sI L xs (x4 + 3)).bind fun v154 => (ob_sI L xs (x4 + 4)).bind fun v155 => (ob_ck 12 n2 (f_X12_gain v151.2 n2 v152 v153 v154 v155)).bind fun v156 => (ob_ck 12 n2 (f_X12_thrown v156.2 n2)).bind fun v157 => (if v157 = v151.1 then ((if v151.1 = 0 then ((ob_rL v156.2 n3 0).bind fun v158 => (if v158 = v156.1 then (rec v156.2 (x4 + 6)) else (none))) else (rec v156.2 (x4 + 6)))) else (none))
theorem law_t18 {C : ob_Cx} {b L : Nat} {xs : Nat → Int32} {n1 n2 n3 : Nat} {rec : ob_St → Int32 → Option ob_St} {g : ob_St} {x4 : Int32} {x : ob_St} (F : ob_Fx C cL_law 8 RL (some .boolean) 11 454) (F2 : ob_Fx (ob_w C) cL_law 8 RL (some .boolean) 11 454) (hX : ob_Sc C b L xs) (hst : (ob_cf C).1.stackTraces = false) (hr : ∀ {g : ob_St} {x4 : Int32} {x : ob_St}, rec g x4 = some x → ob_Ev (ob_w C) 23 [(0, .ref b), (1, ob_rv (ob_w C) n1), (2, ob_rv (ob_w C) n2), (3, ob_rv (ob_w C) n3), (4, .int x4)] [] g) (h : law_18 L xs n1 n2 n3 rec g x4 = some x) : ob_Ev C 1220 [(0, .ref b), (1, ob_rv C n1), (2, ob_rv C n2), (3, ob_rv C n3), (4, .int x4)] [] g := by
  unfold law_18 at h
  refine ob_rload_n F 1 dL_law_1220 rfl ?_
  refine ob_aload_n F 0 dL_law_1221 rfl ?_
  refine ob_iload F 4 dL_law_1222 rfl ?_
  refine ob_iconst F (v := 1) dL_law_1224 (by decide) ?_
  refine ob_iadd F dL_law_1225 ?_
  refine ob_sld F hX dL_law_1226 h fun v147 h => ?_
  refine ob_aload_n F 0 dL_law_1227 rfl ?_
  refine ob_iload F 4 dL_law_1228 rfl ?_
  refine ob_iconst F (v := 2) dL_law_1230 (by decide) ?_
  refine ob_iadd F dL_law_1231 ?_
  refine ob_sld F hX dL_law_1232 h fun v148 h => ?_
  refine ob_aload_n F 0 dL_law_1233 rfl ?_
  refine ob_iload F 4 dL_law_1234 rfl ?_
  refine ob_iconst F (v := 3) dL_law_1236 (by decide) ?_
  refine ob_iadd F dL_law_1237 ?_
  refine ob_sld F hX dL_law_1238 h fun v149 h => ?_
  refine ob_aload_n F 0 dL_law_1239 rfl ?_
  refine ob_iload F 4 dL_law_1240 rfl ?_
  refine ob_iconst F (v := 4) dL_law_1242 (by decide) ?_
  refine ob_iadd F dL_law_1243 ?_
  refine ob_sld F hX dL_law_1244 h fun v150 h => ?_
  refine ob_rload_n F 3 dL_law_1245 rfl ?_
  refine ob_callH F F2 dL_law_1246 ih_L_gain tw5_110 h (fun b hb => t_L_gain hst hb) rfl rfl (Nat.le_of_ble_eq_true rfl) (by decide) fun v151 h => ?_
  refine ob_istore F2 (ls2 := [(5, .int v151.1), (0, .ref b), (1, ob_rv C n1), (2, ob_rv C n2), (3, ob_rv C n3), (4, .int x4)]) dL_law_1249 (by decide) rfl ?_
  refine ob_rload_n F2 3 dL_law_1251 rfl ?_
  refine ob_aload_n F2 1 dL_law_1252 rfl ?_
  refine ob_iload F2 5 dL_law_1253 rfl ?_
  refine ob_iconst F2 (v := 1) dL_law_1255 (by decide) ?_
  refine ob_iadd F2 dL_law_1256 ?_
  refine ob_sld F2 (ob_Scw hX) dL_law_1257 h fun v152 h => ?_
  refine ob_aload_n F2 1 dL_law_1258 rfl ?_
  refine ob_iload F2 5 dL_law_1259 rfl ?_
  refine ob_iconst F2 (v := 2) dL_law_1261 (by decide) ?_
  refine ob_iadd F2 dL_law_1262 ?_
  refine ob_sld F2 (ob_Scw hX) dL_law_1263 h fun v153 h => ?_
  refine ob_aload_n F2 1 dL_law_1264 rfl ?_
  refine ob_iload F2 5 dL_law_1265 rfl ?_
  refine ob_iconst F2 (v := 3) dL_law_1267 (by decide) ?_
  refine ob_iadd F2 dL_law_1268 ?_
  refine ob_sld F2 (ob_Scw hX) dL_law_1269 h fun v154 h => ?_
  refine ob_aload_n F2 1 dL_law_1270 rfl ?_
  refine ob_iload F2 5 dL_law_1271 rfl ?_
  refine ob_iconst F2 (v := 4) dL_law_1273 (by decide) ?_
  refine ob_iadd F2 dL_law_1274 ?_
  refine ob_sld F2 (ob_Scw hX) dL_law_1275 h fun v155 h => ?_
  refine ob_cVlS F2 dL_law_1276 im_X12_gain tw7_56 h (fun b hb => t_X12_gain hb) rfl rfl (Nat.le_of_ble_eq_true rfl) (by decide) fun v156 h => ?_
  refine ob_lstore F2 (ls2 := [(6, .long v156.1), (5, .int v151.1), (0, .ref b), (1, ob_rv C n1), (2, ob_rv C n2), (3, ob_rv C n3), (4, .int x4)]) dL_law_1279 (by decide) rfl ?_
  refine ob_rload_n F2 4 dL_law_1281 rfl ?_
  refine ob_cVi F2 dL_law_1282 im_X12_thrown tw5_168 h (fun b hb => t_X12_thrown hb) rfl rfl (Nat.le_of_ble_eq_true rfl) (by decide) fun v157 h => ?_
  refine ob_iload F2 1 dL_law_1285 rfl ?_
  refine ob_icmp_eq F2 1292 dL_law_1287 (by decide) h (fun h => ?_) (fun h => ?_)
  · refine ob_iload F2 1 dL_law_1292 rfl ?_
    refine ob_if_ne F2 1308 dL_law_1294 (by decide) h (fun h => ?_) (fun h => ?_)
    · refine ob_goto F2 2090 dL_law_1308 (by decide) ?_
      exact ob_sub [2, 3, 4, 5, 6] rfl (law_end F2 hr h)
    · refine ob_rload_n F2 5 dL_law_1297 rfl ?_
      refine ob_iconst F2 (v := 0) dL_law_1298 (by decide) ?_
      refine ob_lald F2 dL_law_1299 h fun v158 h => ?_
      refine ob_lload F2 0 dL_law_1300 rfl ?_
      refine ob_lcmp_eq F2 1308 dL_law_1302 dL_law_1303 (by decide) h (fun h => ?_) (fun h => ?_)
      · refine ob_goto F2 2090 dL_law_1308 (by decide) ?_
        exact ob_sub [2, 3, 4, 5, 6] rfl (law_end F2 hr h)
      · exact ob_no h
  · exact ob_no h
def law_19 (L : Nat) (xs : Nat → Int32) (n1 n2 n3 : Nat) (rec : ob_St → Int32 → Option ob_St) (g : ob_St) (x4 : Int32) : Option ob_St :=
  (ob_sI L xs (x4 + 1)).bind fun v159 => (ob_sI L xs (x4 + 2)).bind fun v160 => (ob_ck 11 n1 (f_X11_richest g n1 v159 v160)).bind fun v161 => (ob_sI L xs (x4 + 1)).bind fun v162 => (ob_sI L xs (x4 + 2)).bind fun v163 => (ob_ck 12 n2 (f_X12_richest v161.2 n2 v162 v163)).bind fun v164 => (if v161.1 = v164.1 then (rec v164.2 (x4 + 6)) else (none))
theorem law_t19 {C : ob_Cx} {b L : Nat} {xs : Nat → Int32} {n1 n2 n3 : Nat} {rec : ob_St → Int32 → Option ob_St} {g : ob_St} {x4 : Int32} {x : ob_St} (F : ob_Fx C cL_law 8 RL (some .boolean) 11 454) (F2 : ob_Fx (ob_w C) cL_law 8 RL (some .boolean) 11 454) (hX : ob_Sc C b L xs) (hst : (ob_cf C).1.stackTraces = false) (hr : ∀ {g : ob_St} {x4 : Int32} {x : ob_St}, rec g x4 = some x → ob_Ev (ob_w C) 23 [(0, .ref b), (1, ob_rv (ob_w C) n1), (2, ob_rv (ob_w C) n2), (3, ob_rv (ob_w C) n3), (4, .int x4)] [] g) (h : law_19 L xs n1 n2 n3 rec g x4 = some x) : ob_Ev C 1311 [(0, .ref b), (1, ob_rv C n1), (2, ob_rv C n2), (3, ob_rv C n3), (4, .int x4)] [] g := by
  unfold law_19 at h
  refine ob_rload_n F 1 dL_law_1311 rfl ?_
  refine ob_aload_n F 0 dL_law_1312 rfl ?_
  refine ob_iload F 4 dL_law_1313 rfl ?_
  refine ob_iconst F (v := 1) dL_law_1315 (by decide) ?_
  refine ob_iadd F dL_law_1316 ?_
  refine ob_sld F hX dL_law_1317 h fun v159 h => ?_
  refine ob_aload_n F 0 dL_law_1318 rfl ?_
  refine ob_iload F 4 dL_law_1319 rfl ?_
  refine ob_iconst F (v := 2) dL_law_1321 (by decide) ?_
  refine ob_iadd F dL_law_1322 ?_
  refine ob_sld F hX dL_law_1323 h fun v160 h => ?_
  refine ob_cViS F dL_law_1324 im_X11_richest tw4_61 h (fun b hb => t_X11_richest hb) rfl rfl (Nat.le_of_ble_eq_true rfl) (by decide) fun v161 h => ?_
  refine ob_rload_n F 2 dL_law_1327 rfl ?_
  refine ob_aload_n F 0 dL_law_1328 rfl ?_
  refine ob_iload F 4 dL_law_1329 rfl ?_
  refine ob_iconst F (v := 1) dL_law_1331 (by decide) ?_
  refine ob_iadd F dL_law_1332 ?_
  refine ob_sld F hX dL_law_1333 h fun v162 h => ?_
  refine ob_aload_n F 0 dL_law_1334 rfl ?_
  refine ob_iload F 4 dL_law_1335 rfl ?_
  refine ob_iconst F (v := 2) dL_law_1337 (by decide) ?_
  refine ob_iadd F dL_law_1338 ?_
  refine ob_sld F hX dL_law_1339 h fun v163 h => ?_
  refine ob_cViS F dL_law_1340 im_X12_richest tw7_67 h (fun b hb => t_X12_richest hb) rfl rfl (Nat.le_of_ble_eq_true rfl) (by decide) fun v164 h => ?_
  refine ob_icmp_eq F 2090 dL_law_1343 (by decide) h (fun h => ?_) (fun h => ?_)
  · exact ob_wd (law_end F2 hr h)
  · exact ob_no h
def law_20 (L : Nat) (xs : Nat → Int32) (n1 n2 n3 : Nat) (rec : ob_St → Int32 → Option ob_St) (g : ob_St) (x4 : Int32) : Option ob_St :=
  (ob_sI L xs (x4 + 1)).bind fun v165 => (ob_sI L xs (x4 + 2)).bind fun v166 => (ob_ck 11 n1 (f_X11_strike g n1 v165 v166)).bind fun v167 => (ob_sI L xs (x4 + 1)).bind fun v168 => (ob_sI L xs (x4 + 2)).bind fun v169 => (ob_ck 12 n2 (f_X12_strike v167.2 n2 v168 v169)).bind fun v170 => (if v167.1 = v170.1 then (rec v170.2 (x4 + 6)) else (none))
theorem law_t20 {C : ob_Cx} {b L : Nat} {xs : Nat → Int32} {n1 n2 n3 : Nat} {rec : ob_St → Int32 → Option ob_St} {g : ob_St} {x4 : Int32} {x : ob_St} (F : ob_Fx C cL_law 8 RL (some .boolean) 11 454) (F2 : ob_Fx (ob_w C) cL_law 8 RL (some .boolean) 11 454) (hX : ob_Sc C b L xs) (hst : (ob_cf C).1.stackTraces = false) (hr : ∀ {g : ob_St} {x4 : Int32} {x : ob_St}, rec g x4 = some x → ob_Ev (ob_w C) 23 [(0, .ref b), (1, ob_rv (ob_w C) n1), (2, ob_rv (ob_w C) n2), (3, ob_rv (ob_w C) n3), (4, .int x4)] [] g) (h : law_20 L xs n1 n2 n3 rec g x4 = some x) : ob_Ev C 1348 [(0, .ref b), (1, ob_rv C n1), (2, ob_rv C n2), (3, ob_rv C n3), (4, .int x4)] [] g := by
  unfold law_20 at h
  refine ob_rload_n F 1 dL_law_1348 rfl ?_
  refine ob_aload_n F 0 dL_law_1349 rfl ?_
  refine ob_iload F 4 dL_law_1350 rfl ?_
  refine ob_iconst F (v := 1) dL_law_1352 (by decide) ?_
  refine ob_iadd F dL_law_1353 ?_
  refine ob_sld F hX dL_law_1354 h fun v165 h => ?_
  refine ob_aload_n F 0 dL_law_1355 rfl ?_
  refine ob_iload F 4 dL_law_1356 rfl ?_
  refine ob_iconst F (v := 2) dL_law_1358 (by decide) ?_
  refine ob_iadd F dL_law_1359 ?_
  refine ob_sld F hX dL_law_1360 h fun v166 h => ?_
  refine ob_cViS F dL_law_1361 im_X11_strike tw4_95 h (fun b hb => t_X11_strike hb) rfl rfl (Nat.le_of_ble_eq_true rfl) (by decide) fun v167 h => ?_
  refine ob_rload_n F 2 dL_law_1364 rfl ?_
  refine ob_aload_n F 0 dL_law_1365 rfl ?_
  refine ob_iload F 4 dL_law_1366 rfl ?_
  refine ob_iconst F (v := 1) dL_law_1368 (by decide) ?_
  refine ob_iadd F dL_law_1369 ?_
  refine ob_sld F hX dL_law_1370 h fun v168 h => ?_
  refine ob_aload_n F 0 dL_law_1371 rfl ?_
  refine ob_iload F 4 dL_law_1372 rfl ?_
  refine ob_iconst F (v := 2) dL_law_1374 (by decide) ?_
  refine ob_iadd F dL_law_1375 ?_
  refine ob_sld F hX dL_law_1376 h fun v169 h => ?_
  refine ob_cViS F dL_law_1377 im_X12_strike tw7_71 h (fun b hb => t_X12_strike hb) rfl rfl (Nat.le_of_ble_eq_true rfl) (by decide) fun v170 h => ?_
  refine ob_icmp_eq F 2090 dL_law_1380 (by decide) h (fun h => ?_) (fun h => ?_)
  · exact ob_wd (law_end F2 hr h)
  · exact ob_no h
def law_21 (L : Nat) (xs : Nat → Int32) (n1 n2 n3 : Nat) (rec : ob_St → Int32 → Option ob_St) (g : ob_St) (x4 : Int32) : Option ob_St :=
  (ob_sI L xs (x4 + 1)).bind fun v171 => (ob_sI L xs (x4 + 2)).bind fun v172 => (f_L_early g n1 v171 v172 n3).bind fun v173 => (ob_sI L xs (x4 + 1)).bind fun v174 => (ob_sI L xs (x4 + 2)).bind fun v175 => (ob_ck 12 n2 (f_X12_early v173.2 n2 v174 v175)).bind fun v176 => (ob_ck 12 n2 (f_X12_thrown v176.2 n2)).bind fun v177 => (if v177 = v173.1 then ((if v173.1 = 0 then ((ob_rL v176.2 n3 0).bind fun v178 => (if v178 = v176.1 then (rec v176.2 (x4 + 6)) else (none))) else (rec v176.2 (x4 + 6)))) else (none))
theorem law_t21 {C : ob_Cx} {b L : Nat} {xs : Nat → Int32} {n1 n2 n3 : Nat} {rec : ob_St → Int32 → Option ob_St} {g : ob_St} {x4 : Int32} {x : ob_St} (F : ob_Fx C cL_law 8 RL (some .boolean) 11 454) (F2 : ob_Fx (ob_w C) cL_law 8 RL (some .boolean) 11 454) (hX : ob_Sc C b L xs) (hst : (ob_cf C).1.stackTraces = false) (hr : ∀ {g : ob_St} {x4 : Int32} {x : ob_St}, rec g x4 = some x → ob_Ev (ob_w C) 23 [(0, .ref b), (1, ob_rv (ob_w C) n1), (2, ob_rv (ob_w C) n2), (3, ob_rv (ob_w C) n3), (4, .int x4)] [] g) (h : law_21 L xs n1 n2 n3 rec g x4 = some x) : ob_Ev C 1385 [(0, .ref b), (1, ob_rv C n1), (2, ob_rv C n2), (3, ob_rv C n3), (4, .int x4)] [] g := by
  unfold law_21 at h
  refine ob_rload_n F 1 dL_law_1385 rfl ?_
  refine ob_aload_n F 0 dL_law_1386 rfl ?_
  refine ob_iload F 4 dL_law_1387 rfl ?_
  refine ob_iconst F (v := 1) dL_law_1389 (by decide) ?_
  refine ob_iadd F dL_law_1390 ?_
  refine ob_sld F hX dL_law_1391 h fun v171 h => ?_
  refine ob_aload_n F 0 dL_law_1392 rfl ?_
  refine ob_iload F 4 dL_law_1393 rfl ?_
  refine ob_iconst F (v := 2) dL_law_1395 (by decide) ?_
  refine ob_iadd F dL_law_1396 ?_
  refine ob_sld F hX dL_law_1397 h fun v172 h => ?_
  refine ob_rload_n F 3 dL_law_1398 rfl ?_
  refine ob_callH F F2 dL_law_1399 ih_L_early tw5_125 h (fun b hb => t_L_early hst hb) rfl rfl (Nat.le_of_ble_eq_true rfl) (by decide) fun v173 h => ?_
  refine ob_istore F2 (ls2 := [(5, .int v173.1), (0, .ref b), (1, ob_rv C n1), (2, ob_rv C n2), (3, ob_rv C n3), (4, .int x4)]) dL_law_1402 (by decide) rfl ?_
  refine ob_rload_n F2 3 dL_law_1404 rfl ?_
  refine ob_aload_n F2 1 dL_law_1405 rfl ?_
  refine ob_iload F2 5 dL_law_1406 rfl ?_
  refine ob_iconst F2 (v := 1) dL_law_1408 (by decide) ?_
  refine ob_iadd F2 dL_law_1409 ?_
  refine ob_sld F2 (ob_Scw hX) dL_law_1410 h fun v174 h => ?_
  refine ob_aload_n F2 1 dL_law_1411 rfl ?_
  refine ob_iload F2 5 dL_law_1412 rfl ?_
  refine ob_iconst F2 (v := 2) dL_law_1414 (by decide) ?_
  refine ob_iadd F2 dL_law_1415 ?_
  refine ob_sld F2 (ob_Scw hX) dL_law_1416 h fun v175 h => ?_
  refine ob_cVlS F2 dL_law_1417 im_X12_early tw7_79 h (fun b hb => t_X12_early hb) rfl rfl (Nat.le_of_ble_eq_true rfl) (by decide) fun v176 h => ?_
  refine ob_lstore F2 (ls2 := [(6, .long v176.1), (5, .int v173.1), (0, .ref b), (1, ob_rv C n1), (2, ob_rv C n2), (3, ob_rv C n3), (4, .int x4)]) dL_law_1420 (by decide) rfl ?_
  refine ob_rload_n F2 4 dL_law_1422 rfl ?_
  refine ob_cVi F2 dL_law_1423 im_X12_thrown tw5_168 h (fun b hb => t_X12_thrown hb) rfl rfl (Nat.le_of_ble_eq_true rfl) (by decide) fun v177 h => ?_
  refine ob_iload F2 1 dL_law_1426 rfl ?_
  refine ob_icmp_eq F2 1433 dL_law_1428 (by decide) h (fun h => ?_) (fun h => ?_)
  · refine ob_iload F2 1 dL_law_1433 rfl ?_
    refine ob_if_ne F2 1449 dL_law_1435 (by decide) h (fun h => ?_) (fun h => ?_)
    · refine ob_goto F2 2090 dL_law_1449 (by decide) ?_
      exact ob_sub [2, 3, 4, 5, 6] rfl (law_end F2 hr h)
    · refine ob_rload_n F2 5 dL_law_1438 rfl ?_
      refine ob_iconst F2 (v := 0) dL_law_1439 (by decide) ?_
      refine ob_lald F2 dL_law_1440 h fun v178 h => ?_
      refine ob_lload F2 0 dL_law_1441 rfl ?_
      refine ob_lcmp_eq F2 1449 dL_law_1443 dL_law_1444 (by decide) h (fun h => ?_) (fun h => ?_)
      · refine ob_goto F2 2090 dL_law_1449 (by decide) ?_
        exact ob_sub [2, 3, 4, 5, 6] rfl (law_end F2 hr h)
      · exact ob_no h
  · exact ob_no h
def law_22 (L : Nat) (xs : Nat → Int32) (n1 n2 n3 : Nat) (rec : ob_St → Int32 → Option ob_St) (g : ob_St) (x4 : Int32) : Option ob_St :=
  (ob_sI L xs (x4 + 1)).bind fun v179 => (ob_sI L xs (x4 + 2)).bind fun v180 => (ob_sI L xs (x4 + 3)).bind fun v181 => (ob_sI L xs (x4 + 4)).bind fun v182 => (f_L_worthBy g n1 v179 v180 v181 v182 n3).bind fun v183 => (ob_sI L xs (x4 + 1)).bind fun v184 => (ob_sI L xs (x4 + 2)).bind fun v185 => (ob_sI L xs (x4 + 3)).bind fun v186 => (ob_sI L xs (x4 + 4)).bind fun v187 => (ob_ck 12 n2 (f_X12_worthBy v183.2 n2 v184 v185 v186 v187)).bind fun v188 => (ob_ck 12 n2 (f_X12_thrown v188.2 n2)).bind fun v189 => (if v189 = v183.1 then ((if v183.1 = 0 then ((ob_rL v188.2 n3 0).bind fun v190 => (if v190 = v188.1 then (rec v188.2 (x4 + 6)) else (none))) else (rec v188.2 (x4 + 6)))) else (none))
theorem law_t22 {C : ob_Cx} {b L : Nat} {xs : Nat → Int32} {n1 n2 n3 : Nat} {rec : ob_St → Int32 → Option ob_St} {g : ob_St} {x4 : Int32} {x : ob_St} (F : ob_Fx C cL_law 8 RL (some .boolean) 11 454) (F2 : ob_Fx (ob_w C) cL_law 8 RL (some .boolean) 11 454) (hX : ob_Sc C b L xs) (hst : (ob_cf C).1.stackTraces = false) (hr : ∀ {g : ob_St} {x4 : Int32} {x : ob_St}, rec g x4 = some x → ob_Ev (ob_w C) 23 [(0, .ref b), (1, ob_rv (ob_w C) n1), (2, ob_rv (ob_w C) n2), (3, ob_rv (ob_w C) n3), (4, .int x4)] [] g) (h : law_22 L xs n1 n2 n3 rec g x4 = some x) : ob_Ev C 1452 [(0, .ref b), (1, ob_rv C n1), (2, ob_rv C n2), (3, ob_rv C n3), (4, .int x4)] [] g := by
  unfold law_22 at h
  refine ob_rload_n F 1 dL_law_1452 rfl ?_
  refine ob_aload_n F 0 dL_law_1453 rfl ?_
  refine ob_iload F 4 dL_law_1454 rfl ?_
  refine ob_iconst F (v := 1) dL_law_1456 (by decide) ?_
  refine ob_iadd F dL_law_1457 ?_
  refine ob_sld F hX dL_law_1458 h fun v179 h => ?_
  refine ob_aload_n F 0 dL_law_1459 rfl ?_
  refine ob_iload F 4 dL_law_1460 rfl ?_
  refine ob_iconst F (v := 2) dL_law_1462 (by decide) ?_
  refine ob_iadd F dL_law_1463 ?_
  refine ob_sld F hX dL_law_1464 h fun v180 h => ?_
  refine ob_aload_n F 0 dL_law_1465 rfl ?_
  refine ob_iload F 4 dL_law_1466 rfl ?_
  refine ob_iconst F (v := 3) dL_law_1468 (by decide) ?_
  refine ob_iadd F dL_law_1469 ?_
  refine ob_sld F hX dL_law_1470 h fun v181 h => ?_
  refine ob_aload_n F 0 dL_law_1471 rfl ?_
  refine ob_iload F 4 dL_law_1472 rfl ?_
  refine ob_iconst F (v := 4) dL_law_1474 (by decide) ?_
  refine ob_iadd F dL_law_1475 ?_
  refine ob_sld F hX dL_law_1476 h fun v182 h => ?_
  refine ob_rload_n F 3 dL_law_1477 rfl ?_
  refine ob_callH F F2 dL_law_1478 ih_L_worthBy tw5_132 h (fun b hb => t_L_worthBy hst hb) rfl rfl (Nat.le_of_ble_eq_true rfl) (by decide) fun v183 h => ?_
  refine ob_istore F2 (ls2 := [(5, .int v183.1), (0, .ref b), (1, ob_rv C n1), (2, ob_rv C n2), (3, ob_rv C n3), (4, .int x4)]) dL_law_1481 (by decide) rfl ?_
  refine ob_rload_n F2 3 dL_law_1483 rfl ?_
  refine ob_aload_n F2 1 dL_law_1484 rfl ?_
  refine ob_iload F2 5 dL_law_1485 rfl ?_
  refine ob_iconst F2 (v := 1) dL_law_1487 (by decide) ?_
  refine ob_iadd F2 dL_law_1488 ?_
  refine ob_sld F2 (ob_Scw hX) dL_law_1489 h fun v184 h => ?_
  refine ob_aload_n F2 1 dL_law_1490 rfl ?_
  refine ob_iload F2 5 dL_law_1491 rfl ?_
  refine ob_iconst F2 (v := 2) dL_law_1493 (by decide) ?_
  refine ob_iadd F2 dL_law_1494 ?_
  refine ob_sld F2 (ob_Scw hX) dL_law_1495 h fun v185 h => ?_
  refine ob_aload_n F2 1 dL_law_1496 rfl ?_
  refine ob_iload F2 5 dL_law_1497 rfl ?_
  refine ob_iconst F2 (v := 3) dL_law_1499 (by decide) ?_
  refine ob_iadd F2 dL_law_1500 ?_
  refine ob_sld F2 (ob_Scw hX) dL_law_1501 h fun v186 h => ?_
  refine ob_aload_n F2 1 dL_law_1502 rfl ?_
  refine ob_iload F2 5 dL_law_1503 rfl ?_
  refine ob_iconst F2 (v := 4) dL_law_1505 (by decide) ?_
  refine ob_iadd F2 dL_law_1506 ?_
  refine ob_sld F2 (ob_Scw hX) dL_law_1507 h fun v187 h => ?_
  refine ob_cVlS F2 dL_law_1508 im_X12_worthBy tw7_83 h (fun b hb => t_X12_worthBy hb) rfl rfl (Nat.le_of_ble_eq_true rfl) (by decide) fun v188 h => ?_
  refine ob_lstore F2 (ls2 := [(6, .long v188.1), (5, .int v183.1), (0, .ref b), (1, ob_rv C n1), (2, ob_rv C n2), (3, ob_rv C n3), (4, .int x4)]) dL_law_1511 (by decide) rfl ?_
  refine ob_rload_n F2 4 dL_law_1513 rfl ?_
  refine ob_cVi F2 dL_law_1514 im_X12_thrown tw5_168 h (fun b hb => t_X12_thrown hb) rfl rfl (Nat.le_of_ble_eq_true rfl) (by decide) fun v189 h => ?_
  refine ob_iload F2 1 dL_law_1517 rfl ?_
  refine ob_icmp_eq F2 1524 dL_law_1519 (by decide) h (fun h => ?_) (fun h => ?_)
  · refine ob_iload F2 1 dL_law_1524 rfl ?_
    refine ob_if_ne F2 1540 dL_law_1526 (by decide) h (fun h => ?_) (fun h => ?_)
    · refine ob_goto F2 2090 dL_law_1540 (by decide) ?_
      exact ob_sub [2, 3, 4, 5, 6] rfl (law_end F2 hr h)
    · refine ob_rload_n F2 5 dL_law_1529 rfl ?_
      refine ob_iconst F2 (v := 0) dL_law_1530 (by decide) ?_
      refine ob_lald F2 dL_law_1531 h fun v190 h => ?_
      refine ob_lload F2 0 dL_law_1532 rfl ?_
      refine ob_lcmp_eq F2 1540 dL_law_1534 dL_law_1535 (by decide) h (fun h => ?_) (fun h => ?_)
      · refine ob_goto F2 2090 dL_law_1540 (by decide) ?_
        exact ob_sub [2, 3, 4, 5, 6] rfl (law_end F2 hr h)
      · exact ob_no h
  · exact ob_no h
def law_23 (L : Nat) (xs : Nat → Int32) (n1 n2 n3 : Nat) (rec : ob_St → Int32 → Option ob_St) (g : ob_St) (x4 : Int32) : Option ob_St :=
  (ob_sI L xs (x4 + 1)).bind fun v191 => (ob_sI L xs (x4 + 2)).bind fun v192 => (ob_ck 11 n1 (f_X11_bestBy g n1 v191 v192)).bind fun v193 => (ob_sI L xs (x4 + 1)).bind fun v194 => (ob_sI L xs (x4 + 2)).bind fun v195 => (ob_ck 12 n2 (f_X12_bestBy v193.2 n2 v194 v195)).bind fun v196 => (if v193.1 = v196.1 then (rec v196.2 (x4 + 6)) else (none))
theorem law_t23 {C : ob_Cx} {b L : Nat} {xs : Nat → Int32} {n1 n2 n3 : Nat} {rec : ob_St → Int32 → Option ob_St} {g : ob_St} {x4 : Int32} {x : ob_St} (F : ob_Fx C cL_law 8 RL (some .boolean) 11 454) (F2 : ob_Fx (ob_w C) cL_law 8 RL (some .boolean) 11 454) (hX : ob_Sc C b L xs) (hst : (ob_cf C).1.stackTraces = false) (hr : ∀ {g : ob_St} {x4 : Int32} {x : ob_St}, rec g x4 = some x → ob_Ev (ob_w C) 23 [(0, .ref b), (1, ob_rv (ob_w C) n1), (2, ob_rv (ob_w C) n2), (3, ob_rv (ob_w C) n3), (4, .int x4)] [] g) (h : law_23 L xs n1 n2 n3 rec g x4 = some x) : ob_Ev C 1543 [(0, .ref b), (1, ob_rv C n1), (2, ob_rv C n2), (3, ob_rv C n3), (4, .int x4)] [] g := by
  unfold law_23 at h
  refine ob_rload_n F 1 dL_law_1543 rfl ?_
  refine ob_aload_n F 0 dL_law_1544 rfl ?_
  refine ob_iload F 4 dL_law_1545 rfl ?_
  refine ob_iconst F (v := 1) dL_law_1547 (by decide) ?_
  refine ob_iadd F dL_law_1548 ?_
  refine ob_sld F hX dL_law_1549 h fun v191 h => ?_
  refine ob_aload_n F 0 dL_law_1550 rfl ?_
  refine ob_iload F 4 dL_law_1551 rfl ?_
  refine ob_iconst F (v := 2) dL_law_1553 (by decide) ?_
  refine ob_iadd F dL_law_1554 ?_
  refine ob_sld F hX dL_law_1555 h fun v192 h => ?_
  refine ob_cViS F dL_law_1556 im_X11_bestBy tw4_109 h (fun b hb => t_X11_bestBy hb) rfl rfl (Nat.le_of_ble_eq_true rfl) (by decide) fun v193 h => ?_
  refine ob_rload_n F 2 dL_law_1559 rfl ?_
  refine ob_aload_n F 0 dL_law_1560 rfl ?_
  refine ob_iload F 4 dL_law_1561 rfl ?_
  refine ob_iconst F (v := 1) dL_law_1563 (by decide) ?_
  refine ob_iadd F dL_law_1564 ?_
  refine ob_sld F hX dL_law_1565 h fun v194 h => ?_
  refine ob_aload_n F 0 dL_law_1566 rfl ?_
  refine ob_iload F 4 dL_law_1567 rfl ?_
  refine ob_iconst F (v := 2) dL_law_1569 (by decide) ?_
  refine ob_iadd F dL_law_1570 ?_
  refine ob_sld F hX dL_law_1571 h fun v195 h => ?_
  refine ob_cViS F dL_law_1572 im_X12_bestBy tw7_105 h (fun b hb => t_X12_bestBy hb) rfl rfl (Nat.le_of_ble_eq_true rfl) (by decide) fun v196 h => ?_
  refine ob_icmp_eq F 2090 dL_law_1575 (by decide) h (fun h => ?_) (fun h => ?_)
  · exact ob_wd (law_end F2 hr h)
  · exact ob_no h
def law_24 (L : Nat) (xs : Nat → Int32) (n1 n2 n3 : Nat) (rec : ob_St → Int32 → Option ob_St) (g : ob_St) (x4 : Int32) : Option ob_St :=
  (ob_sI L xs (x4 + 1)).bind fun v197 => (ob_sI L xs (x4 + 2)).bind fun v198 => (ob_sI L xs (x4 + 3)).bind fun v199 => (f_L_reach g n1 v197 v198 v199 n3).bind fun v200 => (ob_sI L xs (x4 + 1)).bind fun v201 => (ob_sI L xs (x4 + 2)).bind fun v202 => (ob_sI L xs (x4 + 3)).bind fun v203 => (ob_ck 12 n2 (f_X12_reach v200.2 n2 v201 v202 v203)).bind fun v204 => (ob_ck 12 n2 (f_X12_thrown v204.2 n2)).bind fun v205 => (if v205 = v200.1 then ((if v200.1 = 0 then ((ob_rL v204.2 n3 0).bind fun v206 => (if v206 = v204.1 then (rec v204.2 (x4 + 6)) else (none))) else (rec v204.2 (x4 + 6)))) else (none))
theorem law_t24 {C : ob_Cx} {b L : Nat} {xs : Nat → Int32} {n1 n2 n3 : Nat} {rec : ob_St → Int32 → Option ob_St} {g : ob_St} {x4 : Int32} {x : ob_St} (F : ob_Fx C cL_law 8 RL (some .boolean) 11 454) (F2 : ob_Fx (ob_w C) cL_law 8 RL (some .boolean) 11 454) (hX : ob_Sc C b L xs) (hst : (ob_cf C).1.stackTraces = false) (hr : ∀ {g : ob_St} {x4 : Int32} {x : ob_St}, rec g x4 = some x → ob_Ev (ob_w C) 23 [(0, .ref b), (1, ob_rv (ob_w C) n1), (2, ob_rv (ob_w C) n2), (3, ob_rv (ob_w C) n3), (4, .int x4)] [] g) (h : law_24 L xs n1 n2 n3 rec g x4 = some x) : ob_Ev C 1580 [(0, .ref b), (1, ob_rv C n1), (2, ob_rv C n2), (3, ob_rv C n3), (4, .int x4)] [] g := by
  unfold law_24 at h
  refine ob_rload_n F 1 dL_law_1580 rfl ?_
  refine ob_aload_n F 0 dL_law_1581 rfl ?_
  refine ob_iload F 4 dL_law_1582 rfl ?_
  refine ob_iconst F (v := 1) dL_law_1584 (by decide) ?_
  refine ob_iadd F dL_law_1585 ?_
  refine ob_sld F hX dL_law_1586 h fun v197 h => ?_
  refine ob_aload_n F 0 dL_law_1587 rfl ?_
  refine ob_iload F 4 dL_law_1588 rfl ?_
  refine ob_iconst F (v := 2) dL_law_1590 (by decide) ?_
  refine ob_iadd F dL_law_1591 ?_
  refine ob_sld F hX dL_law_1592 h fun v198 h => ?_
  refine ob_aload_n F 0 dL_law_1593 rfl ?_
  refine ob_iload F 4 dL_law_1594 rfl ?_
  refine ob_iconst F (v := 3) dL_law_1596 (by decide) ?_
  refine ob_iadd F dL_law_1597 ?_
  refine ob_sld F hX dL_law_1598 h fun v199 h => ?_
  refine ob_rload_n F 3 dL_law_1599 rfl ?_
  refine ob_callH F F2 dL_law_1600 ih_L_reach tw5_143 h (fun b hb => t_L_reach hst hb) rfl rfl (Nat.le_of_ble_eq_true rfl) (by decide) fun v200 h => ?_
  refine ob_istore F2 (ls2 := [(5, .int v200.1), (0, .ref b), (1, ob_rv C n1), (2, ob_rv C n2), (3, ob_rv C n3), (4, .int x4)]) dL_law_1603 (by decide) rfl ?_
  refine ob_rload_n F2 3 dL_law_1605 rfl ?_
  refine ob_aload_n F2 1 dL_law_1606 rfl ?_
  refine ob_iload F2 5 dL_law_1607 rfl ?_
  refine ob_iconst F2 (v := 1) dL_law_1609 (by decide) ?_
  refine ob_iadd F2 dL_law_1610 ?_
  refine ob_sld F2 (ob_Scw hX) dL_law_1611 h fun v201 h => ?_
  refine ob_aload_n F2 1 dL_law_1612 rfl ?_
  refine ob_iload F2 5 dL_law_1613 rfl ?_
  refine ob_iconst F2 (v := 2) dL_law_1615 (by decide) ?_
  refine ob_iadd F2 dL_law_1616 ?_
  refine ob_sld F2 (ob_Scw hX) dL_law_1617 h fun v202 h => ?_
  refine ob_aload_n F2 1 dL_law_1618 rfl ?_
  refine ob_iload F2 5 dL_law_1619 rfl ?_
  refine ob_iconst F2 (v := 3) dL_law_1621 (by decide) ?_
  refine ob_iadd F2 dL_law_1622 ?_
  refine ob_sld F2 (ob_Scw hX) dL_law_1623 h fun v203 h => ?_
  refine ob_cVlS F2 dL_law_1624 im_X12_reach tw7_109 h (fun b hb => t_X12_reach hb) rfl rfl (Nat.le_of_ble_eq_true rfl) (by decide) fun v204 h => ?_
  refine ob_lstore F2 (ls2 := [(6, .long v204.1), (5, .int v200.1), (0, .ref b), (1, ob_rv C n1), (2, ob_rv C n2), (3, ob_rv C n3), (4, .int x4)]) dL_law_1627 (by decide) rfl ?_
  refine ob_rload_n F2 4 dL_law_1629 rfl ?_
  refine ob_cVi F2 dL_law_1630 im_X12_thrown tw5_168 h (fun b hb => t_X12_thrown hb) rfl rfl (Nat.le_of_ble_eq_true rfl) (by decide) fun v205 h => ?_
  refine ob_iload F2 1 dL_law_1633 rfl ?_
  refine ob_icmp_eq F2 1640 dL_law_1635 (by decide) h (fun h => ?_) (fun h => ?_)
  · refine ob_iload F2 1 dL_law_1640 rfl ?_
    refine ob_if_ne F2 1656 dL_law_1642 (by decide) h (fun h => ?_) (fun h => ?_)
    · refine ob_goto F2 2090 dL_law_1656 (by decide) ?_
      exact ob_sub [2, 3, 4, 5, 6] rfl (law_end F2 hr h)
    · refine ob_rload_n F2 5 dL_law_1645 rfl ?_
      refine ob_iconst F2 (v := 0) dL_law_1646 (by decide) ?_
      refine ob_lald F2 dL_law_1647 h fun v206 h => ?_
      refine ob_lload F2 0 dL_law_1648 rfl ?_
      refine ob_lcmp_eq F2 1656 dL_law_1650 dL_law_1651 (by decide) h (fun h => ?_) (fun h => ?_)
      · refine ob_goto F2 2090 dL_law_1656 (by decide) ?_
        exact ob_sub [2, 3, 4, 5, 6] rfl (law_end F2 hr h)
      · exact ob_no h
  · exact ob_no h
def law_25 (L : Nat) (xs : Nat → Int32) (n1 n2 n3 : Nat) (rec : ob_St → Int32 → Option ob_St) (g : ob_St) (x4 : Int32) : Option ob_St :=
  (ob_sI L xs (x4 + 1)).bind fun v207 => (ob_sI L xs (x4 + 2)).bind fun v208 => (ob_ck 11 n1 (f_X11_own g n1 v207 v208)).bind fun v209 => (ob_sI L xs (x4 + 1)).bind fun v210 => (ob_sI L xs (x4 + 2)).bind fun v211 => (ob_ck 12 n2 (f_X12_own v209.2 n2 v210 v211)).bind fun v212 => (if v209.1 = v212.1 then (rec v212.2 (x4 + 6)) else (none))
theorem law_t25 {C : ob_Cx} {b L : Nat} {xs : Nat → Int32} {n1 n2 n3 : Nat} {rec : ob_St → Int32 → Option ob_St} {g : ob_St} {x4 : Int32} {x : ob_St} (F : ob_Fx C cL_law 8 RL (some .boolean) 11 454) (F2 : ob_Fx (ob_w C) cL_law 8 RL (some .boolean) 11 454) (hX : ob_Sc C b L xs) (hst : (ob_cf C).1.stackTraces = false) (hr : ∀ {g : ob_St} {x4 : Int32} {x : ob_St}, rec g x4 = some x → ob_Ev (ob_w C) 23 [(0, .ref b), (1, ob_rv (ob_w C) n1), (2, ob_rv (ob_w C) n2), (3, ob_rv (ob_w C) n3), (4, .int x4)] [] g) (h : law_25 L xs n1 n2 n3 rec g x4 = some x) : ob_Ev C 1659 [(0, .ref b), (1, ob_rv C n1), (2, ob_rv C n2), (3, ob_rv C n3), (4, .int x4)] [] g := by
  unfold law_25 at h
  refine ob_rload_n F 1 dL_law_1659 rfl ?_
  refine ob_aload_n F 0 dL_law_1660 rfl ?_
  refine ob_iload F 4 dL_law_1661 rfl ?_
  refine ob_iconst F (v := 1) dL_law_1663 (by decide) ?_
  refine ob_iadd F dL_law_1664 ?_
  refine ob_sld F hX dL_law_1665 h fun v207 h => ?_
  refine ob_aload_n F 0 dL_law_1666 rfl ?_
  refine ob_iload F 4 dL_law_1667 rfl ?_
  refine ob_iconst F (v := 2) dL_law_1669 (by decide) ?_
  refine ob_iadd F dL_law_1670 ?_
  refine ob_sld F hX dL_law_1671 h fun v208 h => ?_
  refine ob_cViS F dL_law_1672 im_X11_own tw4_142 h (fun b hb => t_X11_own hb) rfl rfl (Nat.le_of_ble_eq_true rfl) (by decide) fun v209 h => ?_
  refine ob_rload_n F 2 dL_law_1675 rfl ?_
  refine ob_aload_n F 0 dL_law_1676 rfl ?_
  refine ob_iload F 4 dL_law_1677 rfl ?_
  refine ob_iconst F (v := 1) dL_law_1679 (by decide) ?_
  refine ob_iadd F dL_law_1680 ?_
  refine ob_sld F hX dL_law_1681 h fun v210 h => ?_
  refine ob_aload_n F 0 dL_law_1682 rfl ?_
  refine ob_iload F 4 dL_law_1683 rfl ?_
  refine ob_iconst F (v := 2) dL_law_1685 (by decide) ?_
  refine ob_iadd F dL_law_1686 ?_
  refine ob_sld F hX dL_law_1687 h fun v211 h => ?_
  refine ob_cViS F dL_law_1688 im_X12_own tw7_133 h (fun b hb => t_X12_own hb) rfl rfl (Nat.le_of_ble_eq_true rfl) (by decide) fun v212 h => ?_
  refine ob_icmp_eq F 2090 dL_law_1691 (by decide) h (fun h => ?_) (fun h => ?_)
  · exact ob_wd (law_end F2 hr h)
  · exact ob_no h
def law_26 (L : Nat) (xs : Nat → Int32) (n1 n2 n3 : Nat) (rec : ob_St → Int32 → Option ob_St) (g : ob_St) (x4 : Int32) : Option ob_St :=
  (ob_sI L xs (x4 + 1)).bind fun v213 => (ob_sI L xs (x4 + 2)).bind fun v214 => (ob_sI L xs (x4 + 3)).bind fun v215 => (f_L_book g n1 v213 v214 v215 n3).bind fun v216 => (ob_sI L xs (x4 + 1)).bind fun v217 => (ob_sI L xs (x4 + 2)).bind fun v218 => (ob_sI L xs (x4 + 3)).bind fun v219 => (ob_ck 12 n2 (f_X12_book v216.2 n2 v217 v218 v219)).bind fun v220 => (ob_ck 12 n2 (f_X12_thrown v220.2 n2)).bind fun v221 => (if v221 = v216.1 then ((if v216.1 = 0 then ((ob_rL v220.2 n3 0).bind fun v222 => (if v222 = v220.1 then (rec v220.2 (x4 + 6)) else (none))) else (rec v220.2 (x4 + 6)))) else (none))
theorem law_t26 {C : ob_Cx} {b L : Nat} {xs : Nat → Int32} {n1 n2 n3 : Nat} {rec : ob_St → Int32 → Option ob_St} {g : ob_St} {x4 : Int32} {x : ob_St} (F : ob_Fx C cL_law 8 RL (some .boolean) 11 454) (F2 : ob_Fx (ob_w C) cL_law 8 RL (some .boolean) 11 454) (hX : ob_Sc C b L xs) (hst : (ob_cf C).1.stackTraces = false) (hr : ∀ {g : ob_St} {x4 : Int32} {x : ob_St}, rec g x4 = some x → ob_Ev (ob_w C) 23 [(0, .ref b), (1, ob_rv (ob_w C) n1), (2, ob_rv (ob_w C) n2), (3, ob_rv (ob_w C) n3), (4, .int x4)] [] g) (h : law_26 L xs n1 n2 n3 rec g x4 = some x) : ob_Ev C 1696 [(0, .ref b), (1, ob_rv C n1), (2, ob_rv C n2), (3, ob_rv C n3), (4, .int x4)] [] g := by
  unfold law_26 at h
  refine ob_rload_n F 1 dL_law_1696 rfl ?_
  refine ob_aload_n F 0 dL_law_1697 rfl ?_
  refine ob_iload F 4 dL_law_1698 rfl ?_
  refine ob_iconst F (v := 1) dL_law_1700 (by decide) ?_
  refine ob_iadd F dL_law_1701 ?_
  refine ob_sld F hX dL_law_1702 h fun v213 h => ?_
  refine ob_aload_n F 0 dL_law_1703 rfl ?_
  refine ob_iload F 4 dL_law_1704 rfl ?_
  refine ob_iconst F (v := 2) dL_law_1706 (by decide) ?_
  refine ob_iadd F dL_law_1707 ?_
  refine ob_sld F hX dL_law_1708 h fun v214 h => ?_
  refine ob_aload_n F 0 dL_law_1709 rfl ?_
  refine ob_iload F 4 dL_law_1710 rfl ?_
  refine ob_iconst F (v := 3) dL_law_1712 (by decide) ?_
  refine ob_iadd F dL_law_1713 ?_
  refine ob_sld F hX dL_law_1714 h fun v215 h => ?_
  refine ob_rload_n F 3 dL_law_1715 rfl ?_
  refine ob_callH F F2 dL_law_1716 ih_L_book tw5_154 h (fun b hb => t_L_book hst hb) rfl rfl (Nat.le_of_ble_eq_true rfl) (by decide) fun v216 h => ?_
  refine ob_istore F2 (ls2 := [(5, .int v216.1), (0, .ref b), (1, ob_rv C n1), (2, ob_rv C n2), (3, ob_rv C n3), (4, .int x4)]) dL_law_1719 (by decide) rfl ?_
  refine ob_rload_n F2 3 dL_law_1721 rfl ?_
  refine ob_aload_n F2 1 dL_law_1722 rfl ?_
  refine ob_iload F2 5 dL_law_1723 rfl ?_
  refine ob_iconst F2 (v := 1) dL_law_1725 (by decide) ?_
  refine ob_iadd F2 dL_law_1726 ?_
  refine ob_sld F2 (ob_Scw hX) dL_law_1727 h fun v217 h => ?_
  refine ob_aload_n F2 1 dL_law_1728 rfl ?_
  refine ob_iload F2 5 dL_law_1729 rfl ?_
  refine ob_iconst F2 (v := 2) dL_law_1731 (by decide) ?_
  refine ob_iadd F2 dL_law_1732 ?_
  refine ob_sld F2 (ob_Scw hX) dL_law_1733 h fun v218 h => ?_
  refine ob_aload_n F2 1 dL_law_1734 rfl ?_
  refine ob_iload F2 5 dL_law_1735 rfl ?_
  refine ob_iconst F2 (v := 3) dL_law_1737 (by decide) ?_
  refine ob_iadd F2 dL_law_1738 ?_
  refine ob_sld F2 (ob_Scw hX) dL_law_1739 h fun v219 h => ?_
  refine ob_cVlS F2 dL_law_1740 im_X12_book tw7_113 h (fun b hb => t_X12_book hb) rfl rfl (Nat.le_of_ble_eq_true rfl) (by decide) fun v220 h => ?_
  refine ob_lstore F2 (ls2 := [(6, .long v220.1), (5, .int v216.1), (0, .ref b), (1, ob_rv C n1), (2, ob_rv C n2), (3, ob_rv C n3), (4, .int x4)]) dL_law_1743 (by decide) rfl ?_
  refine ob_rload_n F2 4 dL_law_1745 rfl ?_
  refine ob_cVi F2 dL_law_1746 im_X12_thrown tw5_168 h (fun b hb => t_X12_thrown hb) rfl rfl (Nat.le_of_ble_eq_true rfl) (by decide) fun v221 h => ?_
  refine ob_iload F2 1 dL_law_1749 rfl ?_
  refine ob_icmp_eq F2 1756 dL_law_1751 (by decide) h (fun h => ?_) (fun h => ?_)
  · refine ob_iload F2 1 dL_law_1756 rfl ?_
    refine ob_if_ne F2 1772 dL_law_1758 (by decide) h (fun h => ?_) (fun h => ?_)
    · refine ob_goto F2 2090 dL_law_1772 (by decide) ?_
      exact ob_sub [2, 3, 4, 5, 6] rfl (law_end F2 hr h)
    · refine ob_rload_n F2 5 dL_law_1761 rfl ?_
      refine ob_iconst F2 (v := 0) dL_law_1762 (by decide) ?_
      refine ob_lald F2 dL_law_1763 h fun v222 h => ?_
      refine ob_lload F2 0 dL_law_1764 rfl ?_
      refine ob_lcmp_eq F2 1772 dL_law_1766 dL_law_1767 (by decide) h (fun h => ?_) (fun h => ?_)
      · refine ob_goto F2 2090 dL_law_1772 (by decide) ?_
        exact ob_sub [2, 3, 4, 5, 6] rfl (law_end F2 hr h)
      · exact ob_no h
  · exact ob_no h
def law_27 (L : Nat) (xs : Nat → Int32) (n1 n2 n3 : Nat) (rec : ob_St → Int32 → Option ob_St) (g : ob_St) (x4 : Int32) : Option ob_St :=
  (ob_sI L xs (x4 + 1)).bind fun v223 => (ob_sI L xs (x4 + 2)).bind fun v224 => (ob_sI L xs (x4 + 3)).bind fun v225 => (ob_sI L xs (x4 + 4)).bind fun v226 => (f_L_cover g n1 v223 v224 v225 v226 n3).bind fun v227 => (ob_sI L xs (x4 + 1)).bind fun v228 => (ob_sI L xs (x4 + 2)).bind fun v229 => (ob_sI L xs (x4 + 3)).bind fun v230 => (ob_sI L xs (x4 + 4)).bind fun v231 => (ob_ck 12 n2 (f_X12_cover v227.2 n2 v228 v229 v230 v231)).bind fun v232 => (ob_ck 12 n2 (f_X12_thrown v232.2 n2)).bind fun v233 => (if v233 = v227.1 then ((if v227.1 = 0 then ((ob_rL v232.2 n3 0).bind fun v234 => (if v234 = v232.1 then (rec v232.2 (x4 + 6)) else (none))) else (rec v232.2 (x4 + 6)))) else (none))
theorem law_t27 {C : ob_Cx} {b L : Nat} {xs : Nat → Int32} {n1 n2 n3 : Nat} {rec : ob_St → Int32 → Option ob_St} {g : ob_St} {x4 : Int32} {x : ob_St} (F : ob_Fx C cL_law 8 RL (some .boolean) 11 454) (F2 : ob_Fx (ob_w C) cL_law 8 RL (some .boolean) 11 454) (hX : ob_Sc C b L xs) (hst : (ob_cf C).1.stackTraces = false) (hr : ∀ {g : ob_St} {x4 : Int32} {x : ob_St}, rec g x4 = some x → ob_Ev (ob_w C) 23 [(0, .ref b), (1, ob_rv (ob_w C) n1), (2, ob_rv (ob_w C) n2), (3, ob_rv (ob_w C) n3), (4, .int x4)] [] g) (h : law_27 L xs n1 n2 n3 rec g x4 = some x) : ob_Ev C 1775 [(0, .ref b), (1, ob_rv C n1), (2, ob_rv C n2), (3, ob_rv C n3), (4, .int x4)] [] g := by
  unfold law_27 at h
  refine ob_rload_n F 1 dL_law_1775 rfl ?_
  refine ob_aload_n F 0 dL_law_1776 rfl ?_
  refine ob_iload F 4 dL_law_1777 rfl ?_
  refine ob_iconst F (v := 1) dL_law_1779 (by decide) ?_
  refine ob_iadd F dL_law_1780 ?_
  refine ob_sld F hX dL_law_1781 h fun v223 h => ?_
  refine ob_aload_n F 0 dL_law_1782 rfl ?_
  refine ob_iload F 4 dL_law_1783 rfl ?_
  refine ob_iconst F (v := 2) dL_law_1785 (by decide) ?_
  refine ob_iadd F dL_law_1786 ?_
  refine ob_sld F hX dL_law_1787 h fun v224 h => ?_
  refine ob_aload_n F 0 dL_law_1788 rfl ?_
  refine ob_iload F 4 dL_law_1789 rfl ?_
  refine ob_iconst F (v := 3) dL_law_1791 (by decide) ?_
  refine ob_iadd F dL_law_1792 ?_
  refine ob_sld F hX dL_law_1793 h fun v225 h => ?_
  refine ob_aload_n F 0 dL_law_1794 rfl ?_
  refine ob_iload F 4 dL_law_1795 rfl ?_
  refine ob_iconst F (v := 4) dL_law_1797 (by decide) ?_
  refine ob_iadd F dL_law_1798 ?_
  refine ob_sld F hX dL_law_1799 h fun v226 h => ?_
  refine ob_rload_n F 3 dL_law_1800 rfl ?_
  refine ob_callH F F2 dL_law_1801 ih_L_cover tw5_161 h (fun b hb => t_L_cover hst hb) rfl rfl (Nat.le_of_ble_eq_true rfl) (by decide) fun v227 h => ?_
  refine ob_istore F2 (ls2 := [(5, .int v227.1), (0, .ref b), (1, ob_rv C n1), (2, ob_rv C n2), (3, ob_rv C n3), (4, .int x4)]) dL_law_1804 (by decide) rfl ?_
  refine ob_rload_n F2 3 dL_law_1806 rfl ?_
  refine ob_aload_n F2 1 dL_law_1807 rfl ?_
  refine ob_iload F2 5 dL_law_1808 rfl ?_
  refine ob_iconst F2 (v := 1) dL_law_1810 (by decide) ?_
  refine ob_iadd F2 dL_law_1811 ?_
  refine ob_sld F2 (ob_Scw hX) dL_law_1812 h fun v228 h => ?_
  refine ob_aload_n F2 1 dL_law_1813 rfl ?_
  refine ob_iload F2 5 dL_law_1814 rfl ?_
  refine ob_iconst F2 (v := 2) dL_law_1816 (by decide) ?_
  refine ob_iadd F2 dL_law_1817 ?_
  refine ob_sld F2 (ob_Scw hX) dL_law_1818 h fun v229 h => ?_
  refine ob_aload_n F2 1 dL_law_1819 rfl ?_
  refine ob_iload F2 5 dL_law_1820 rfl ?_
  refine ob_iconst F2 (v := 3) dL_law_1822 (by decide) ?_
  refine ob_iadd F2 dL_law_1823 ?_
  refine ob_sld F2 (ob_Scw hX) dL_law_1824 h fun v230 h => ?_
  refine ob_aload_n F2 1 dL_law_1825 rfl ?_
  refine ob_iload F2 5 dL_law_1826 rfl ?_
  refine ob_iconst F2 (v := 4) dL_law_1828 (by decide) ?_
  refine ob_iadd F2 dL_law_1829 ?_
  refine ob_sld F2 (ob_Scw hX) dL_law_1830 h fun v231 h => ?_
  refine ob_cVlS F2 dL_law_1831 im_X12_cover tw7_121 h (fun b hb => t_X12_cover hb) rfl rfl (Nat.le_of_ble_eq_true rfl) (by decide) fun v232 h => ?_
  refine ob_lstore F2 (ls2 := [(6, .long v232.1), (5, .int v227.1), (0, .ref b), (1, ob_rv C n1), (2, ob_rv C n2), (3, ob_rv C n3), (4, .int x4)]) dL_law_1834 (by decide) rfl ?_
  refine ob_rload_n F2 4 dL_law_1836 rfl ?_
  refine ob_cVi F2 dL_law_1837 im_X12_thrown tw5_168 h (fun b hb => t_X12_thrown hb) rfl rfl (Nat.le_of_ble_eq_true rfl) (by decide) fun v233 h => ?_
  refine ob_iload F2 1 dL_law_1840 rfl ?_
  refine ob_icmp_eq F2 1847 dL_law_1842 (by decide) h (fun h => ?_) (fun h => ?_)
  · refine ob_iload F2 1 dL_law_1847 rfl ?_
    refine ob_if_ne F2 1863 dL_law_1849 (by decide) h (fun h => ?_) (fun h => ?_)
    · refine ob_goto F2 2090 dL_law_1863 (by decide) ?_
      exact ob_sub [2, 3, 4, 5, 6] rfl (law_end F2 hr h)
    · refine ob_rload_n F2 5 dL_law_1852 rfl ?_
      refine ob_iconst F2 (v := 0) dL_law_1853 (by decide) ?_
      refine ob_lald F2 dL_law_1854 h fun v234 h => ?_
      refine ob_lload F2 0 dL_law_1855 rfl ?_
      refine ob_lcmp_eq F2 1863 dL_law_1857 dL_law_1858 (by decide) h (fun h => ?_) (fun h => ?_)
      · refine ob_goto F2 2090 dL_law_1863 (by decide) ?_
        exact ob_sub [2, 3, 4, 5, 6] rfl (law_end F2 hr h)
      · exact ob_no h
  · exact ob_no h
def law_28 (L : Nat) (xs : Nat → Int32) (n1 n2 n3 : Nat) (rec : ob_St → Int32 → Option ob_St) (g : ob_St) (x4 : Int32) : Option ob_St :=
  (ob_sI L xs (x4 + 1)).bind fun v235 => (ob_ck 11 n1 (f_X11_extreme g n1 v235)).bind fun v236 => (ob_sI L xs (x4 + 1)).bind fun v237 => (ob_ck 12 n2 (f_X12_extreme v236.2 n2 v237)).bind fun v238 => (if v236.1 = v238.1 then (rec v238.2 (x4 + 6)) else (none))
theorem law_t28 {C : ob_Cx} {b L : Nat} {xs : Nat → Int32} {n1 n2 n3 : Nat} {rec : ob_St → Int32 → Option ob_St} {g : ob_St} {x4 : Int32} {x : ob_St} (F : ob_Fx C cL_law 8 RL (some .boolean) 11 454) (F2 : ob_Fx (ob_w C) cL_law 8 RL (some .boolean) 11 454) (hX : ob_Sc C b L xs) (hst : (ob_cf C).1.stackTraces = false) (hr : ∀ {g : ob_St} {x4 : Int32} {x : ob_St}, rec g x4 = some x → ob_Ev (ob_w C) 23 [(0, .ref b), (1, ob_rv (ob_w C) n1), (2, ob_rv (ob_w C) n2), (3, ob_rv (ob_w C) n3), (4, .int x4)] [] g) (h : law_28 L xs n1 n2 n3 rec g x4 = some x) : ob_Ev C 1866 [(0, .ref b), (1, ob_rv C n1), (2, ob_rv C n2), (3, ob_rv C n3), (4, .int x4)] [] g := by
  unfold law_28 at h
  refine ob_rload_n F 1 dL_law_1866 rfl ?_
  refine ob_aload_n F 0 dL_law_1867 rfl ?_
  refine ob_iload F 4 dL_law_1868 rfl ?_
  refine ob_iconst F (v := 1) dL_law_1870 (by decide) ?_
  refine ob_iadd F dL_law_1871 ?_
  refine ob_sld F hX dL_law_1872 h fun v235 h => ?_
  refine ob_cViS F dL_law_1873 im_X11_extreme tw4_170 h (fun b hb => t_X11_extreme hb) rfl rfl (Nat.le_of_ble_eq_true rfl) (by decide) fun v236 h => ?_
  refine ob_rload_n F 2 dL_law_1876 rfl ?_
  refine ob_aload_n F 0 dL_law_1877 rfl ?_
  refine ob_iload F 4 dL_law_1878 rfl ?_
  refine ob_iconst F (v := 1) dL_law_1880 (by decide) ?_
  refine ob_iadd F dL_law_1881 ?_
  refine ob_sld F hX dL_law_1882 h fun v237 h => ?_
  refine ob_cViS F dL_law_1883 im_X12_extreme tw7_129 h (fun b hb => t_X12_extreme hb) rfl rfl (Nat.le_of_ble_eq_true rfl) (by decide) fun v238 h => ?_
  refine ob_icmp_eq F 2090 dL_law_1886 (by decide) h (fun h => ?_) (fun h => ?_)
  · exact ob_wd (law_end F2 hr h)
  · exact ob_no h
def law_29 (L : Nat) (xs : Nat → Int32) (n1 n2 n3 : Nat) (rec : ob_St → Int32 → Option ob_St) (g : ob_St) (x4 : Int32) : Option ob_St :=
  (ob_sI L xs (x4 + 1)).bind fun v239 => (ob_ck 11 n1 (f_X11_move g n1 v239)).bind fun v240 => (ob_sI L xs (x4 + 1)).bind fun v241 => (ob_ck 12 n2 (f_X12_move v240.2 n2 v241)).bind fun v242 => (if v240.1 = v242.1 then (rec v242.2 (x4 + 6)) else (none))
theorem law_t29 {C : ob_Cx} {b L : Nat} {xs : Nat → Int32} {n1 n2 n3 : Nat} {rec : ob_St → Int32 → Option ob_St} {g : ob_St} {x4 : Int32} {x : ob_St} (F : ob_Fx C cL_law 8 RL (some .boolean) 11 454) (F2 : ob_Fx (ob_w C) cL_law 8 RL (some .boolean) 11 454) (hX : ob_Sc C b L xs) (hst : (ob_cf C).1.stackTraces = false) (hr : ∀ {g : ob_St} {x4 : Int32} {x : ob_St}, rec g x4 = some x → ob_Ev (ob_w C) 23 [(0, .ref b), (1, ob_rv (ob_w C) n1), (2, ob_rv (ob_w C) n2), (3, ob_rv (ob_w C) n3), (4, .int x4)] [] g) (h : law_29 L xs n1 n2 n3 rec g x4 = some x) : ob_Ev C 1891 [(0, .ref b), (1, ob_rv C n1), (2, ob_rv C n2), (3, ob_rv C n3), (4, .int x4)] [] g := by
  unfold law_29 at h
  refine ob_rload_n F 1 dL_law_1891 rfl ?_
  refine ob_aload_n F 0 dL_law_1892 rfl ?_
  refine ob_iload F 4 dL_law_1893 rfl ?_
  refine ob_iconst F (v := 1) dL_law_1895 (by decide) ?_
  refine ob_iadd F dL_law_1896 ?_
  refine ob_sld F hX dL_law_1897 h fun v239 h => ?_
  refine ob_cViS F dL_law_1898 im_X11_move tw4_178 h (fun b hb => t_X11_move hb) rfl rfl (Nat.le_of_ble_eq_true rfl) (by decide) fun v240 h => ?_
  refine ob_rload_n F 2 dL_law_1901 rfl ?_
  refine ob_aload_n F 0 dL_law_1902 rfl ?_
  refine ob_iload F 4 dL_law_1903 rfl ?_
  refine ob_iconst F (v := 1) dL_law_1905 (by decide) ?_
  refine ob_iadd F dL_law_1906 ?_
  refine ob_sld F hX dL_law_1907 h fun v241 h => ?_
  refine ob_cViS F dL_law_1908 im_X12_move tw7_141 h (fun b hb => t_X12_move hb) rfl rfl (Nat.le_of_ble_eq_true rfl) (by decide) fun v242 h => ?_
  refine ob_icmp_eq F 2090 dL_law_1911 (by decide) h (fun h => ?_) (fun h => ?_)
  · exact ob_wd (law_end F2 hr h)
  · exact ob_no h
def law_30 (L : Nat) (xs : Nat → Int32) (n1 n2 n3 : Nat) (rec : ob_St → Int32 → Option ob_St) (g : ob_St) (x4 : Int32) : Option ob_St :=
  (ob_sI L xs (x4 + 1)).bind fun v243 => (ob_sI L xs (x4 + 2)).bind fun v244 => (ob_ck 11 n1 (f_X11_fall g n1 v243 v244)).bind fun v245 => (ob_sI L xs (x4 + 1)).bind fun v246 => (ob_sI L xs (x4 + 2)).bind fun v247 => (ob_ck 12 n2 (f_X12_fall v245.2 n2 v246 v247)).bind fun v248 => (if v245.1 = v248.1 then (rec v248.2 (x4 + 6)) else (none))
theorem law_t30 {C : ob_Cx} {b L : Nat} {xs : Nat → Int32} {n1 n2 n3 : Nat} {rec : ob_St → Int32 → Option ob_St} {g : ob_St} {x4 : Int32} {x : ob_St} (F : ob_Fx C cL_law 8 RL (some .boolean) 11 454) (F2 : ob_Fx (ob_w C) cL_law 8 RL (some .boolean) 11 454) (hX : ob_Sc C b L xs) (hst : (ob_cf C).1.stackTraces = false) (hr : ∀ {g : ob_St} {x4 : Int32} {x : ob_St}, rec g x4 = some x → ob_Ev (ob_w C) 23 [(0, .ref b), (1, ob_rv (ob_w C) n1), (2, ob_rv (ob_w C) n2), (3, ob_rv (ob_w C) n3), (4, .int x4)] [] g) (h : law_30 L xs n1 n2 n3 rec g x4 = some x) : ob_Ev C 1916 [(0, .ref b), (1, ob_rv C n1), (2, ob_rv C n2), (3, ob_rv C n3), (4, .int x4)] [] g := by
  unfold law_30 at h
  refine ob_rload_n F 1 dL_law_1916 rfl ?_
  refine ob_aload_n F 0 dL_law_1917 rfl ?_
  refine ob_iload F 4 dL_law_1918 rfl ?_
  refine ob_iconst F (v := 1) dL_law_1920 (by decide) ?_
  refine ob_iadd F dL_law_1921 ?_
  refine ob_sld F hX dL_law_1922 h fun v243 h => ?_
  refine ob_aload_n F 0 dL_law_1923 rfl ?_
  refine ob_iload F 4 dL_law_1924 rfl ?_
  refine ob_iconst F (v := 2) dL_law_1926 (by decide) ?_
  refine ob_iadd F dL_law_1927 ?_
  refine ob_sld F hX dL_law_1928 h fun v244 h => ?_
  refine ob_cViS F dL_law_1929 im_X11_fall tw4_187 h (fun b hb => t_X11_fall hb) rfl rfl (Nat.le_of_ble_eq_true rfl) (by decide) fun v245 h => ?_
  refine ob_rload_n F 2 dL_law_1932 rfl ?_
  refine ob_aload_n F 0 dL_law_1933 rfl ?_
  refine ob_iload F 4 dL_law_1934 rfl ?_
  refine ob_iconst F (v := 1) dL_law_1936 (by decide) ?_
  refine ob_iadd F dL_law_1937 ?_
  refine ob_sld F hX dL_law_1938 h fun v246 h => ?_
  refine ob_aload_n F 0 dL_law_1939 rfl ?_
  refine ob_iload F 4 dL_law_1940 rfl ?_
  refine ob_iconst F (v := 2) dL_law_1942 (by decide) ?_
  refine ob_iadd F dL_law_1943 ?_
  refine ob_sld F hX dL_law_1944 h fun v247 h => ?_
  refine ob_cViS F dL_law_1945 im_X12_fall tw7_149 h (fun b hb => t_X12_fall hb) rfl rfl (Nat.le_of_ble_eq_true rfl) (by decide) fun v248 h => ?_
  refine ob_icmp_eq F 2090 dL_law_1948 (by decide) h (fun h => ?_) (fun h => ?_)
  · exact ob_wd (law_end F2 hr h)
  · exact ob_no h
def law_31 (L : Nat) (xs : Nat → Int32) (n1 n2 n3 : Nat) (rec : ob_St → Int32 → Option ob_St) (g : ob_St) (x4 : Int32) : Option ob_St :=
  (ob_sI L xs (x4 + 1)).bind fun v249 => (ob_sI L xs (x4 + 2)).bind fun v250 => (ob_ck 11 n1 (f_X11_cash g n1 v249 v250)).bind fun v251 => (ob_sI L xs (x4 + 1)).bind fun v252 => (ob_sI L xs (x4 + 2)).bind fun v253 => (ob_ck 12 n2 (f_X12_cash v251.2 n2 v252 v253)).bind fun v254 => (if v251.1 = v254.1 then (rec v254.2 (x4 + 6)) else (none))
theorem law_t31 {C : ob_Cx} {b L : Nat} {xs : Nat → Int32} {n1 n2 n3 : Nat} {rec : ob_St → Int32 → Option ob_St} {g : ob_St} {x4 : Int32} {x : ob_St} (F : ob_Fx C cL_law 8 RL (some .boolean) 11 454) (F2 : ob_Fx (ob_w C) cL_law 8 RL (some .boolean) 11 454) (hX : ob_Sc C b L xs) (hst : (ob_cf C).1.stackTraces = false) (hr : ∀ {g : ob_St} {x4 : Int32} {x : ob_St}, rec g x4 = some x → ob_Ev (ob_w C) 23 [(0, .ref b), (1, ob_rv (ob_w C) n1), (2, ob_rv (ob_w C) n2), (3, ob_rv (ob_w C) n3), (4, .int x4)] [] g) (h : law_31 L xs n1 n2 n3 rec g x4 = some x) : ob_Ev C 1953 [(0, .ref b), (1, ob_rv C n1), (2, ob_rv C n2), (3, ob_rv C n3), (4, .int x4)] [] g := by
  unfold law_31 at h
  refine ob_rload_n F 1 dL_law_1953 rfl ?_
  refine ob_aload_n F 0 dL_law_1954 rfl ?_
  refine ob_iload F 4 dL_law_1955 rfl ?_
  refine ob_iconst F (v := 1) dL_law_1957 (by decide) ?_
  refine ob_iadd F dL_law_1958 ?_
  refine ob_sld F hX dL_law_1959 h fun v249 h => ?_
  refine ob_aload_n F 0 dL_law_1960 rfl ?_
  refine ob_iload F 4 dL_law_1961 rfl ?_
  refine ob_iconst F (v := 2) dL_law_1963 (by decide) ?_
  refine ob_iadd F dL_law_1964 ?_
  refine ob_sld F hX dL_law_1965 h fun v250 h => ?_
  refine ob_cViS F dL_law_1966 im_X11_cash tw4_191 h (fun b hb => t_X11_cash hb) rfl rfl (Nat.le_of_ble_eq_true rfl) (by decide) fun v251 h => ?_
  refine ob_rload_n F 2 dL_law_1969 rfl ?_
  refine ob_aload_n F 0 dL_law_1970 rfl ?_
  refine ob_iload F 4 dL_law_1971 rfl ?_
  refine ob_iconst F (v := 1) dL_law_1973 (by decide) ?_
  refine ob_iadd F dL_law_1974 ?_
  refine ob_sld F hX dL_law_1975 h fun v252 h => ?_
  refine ob_aload_n F 0 dL_law_1976 rfl ?_
  refine ob_iload F 4 dL_law_1977 rfl ?_
  refine ob_iconst F (v := 2) dL_law_1979 (by decide) ?_
  refine ob_iadd F dL_law_1980 ?_
  refine ob_sld F hX dL_law_1981 h fun v253 h => ?_
  refine ob_cViS F dL_law_1982 im_X12_cash tw7_153 h (fun b hb => t_X12_cash hb) rfl rfl (Nat.le_of_ble_eq_true rfl) (by decide) fun v254 h => ?_
  refine ob_icmp_eq F 2090 dL_law_1985 (by decide) h (fun h => ?_) (fun h => ?_)
  · exact ob_wd (law_end F2 hr h)
  · exact ob_no h
def law_32 (L : Nat) (xs : Nat → Int32) (n1 n2 n3 : Nat) (rec : ob_St → Int32 → Option ob_St) (g : ob_St) (x4 : Int32) : Option ob_St :=
  (ob_sI L xs (x4 + 1)).bind fun v255 => (ob_sI L xs (x4 + 2)).bind fun v256 => (ob_ck 11 n1 (f_X11_restrike g n1 v255 v256)).bind fun v257 => (ob_sI L xs (x4 + 1)).bind fun v258 => (ob_sI L xs (x4 + 2)).bind fun v259 => (ob_ck 12 n2 (f_X12_restrike v257.2 n2 v258 v259)).bind fun v260 => (if v257.1 = v260.1 then (rec v260.2 (x4 + 6)) else (none))
theorem law_t32 {C : ob_Cx} {b L : Nat} {xs : Nat → Int32} {n1 n2 n3 : Nat} {rec : ob_St → Int32 → Option ob_St} {g : ob_St} {x4 : Int32} {x : ob_St} (F : ob_Fx C cL_law 8 RL (some .boolean) 11 454) (F2 : ob_Fx (ob_w C) cL_law 8 RL (some .boolean) 11 454) (hX : ob_Sc C b L xs) (hst : (ob_cf C).1.stackTraces = false) (hr : ∀ {g : ob_St} {x4 : Int32} {x : ob_St}, rec g x4 = some x → ob_Ev (ob_w C) 23 [(0, .ref b), (1, ob_rv (ob_w C) n1), (2, ob_rv (ob_w C) n2), (3, ob_rv (ob_w C) n3), (4, .int x4)] [] g) (h : law_32 L xs n1 n2 n3 rec g x4 = some x) : ob_Ev C 1990 [(0, .ref b), (1, ob_rv C n1), (2, ob_rv C n2), (3, ob_rv C n3), (4, .int x4)] [] g := by
  unfold law_32 at h
  refine ob_rload_n F 1 dL_law_1990 rfl ?_
  refine ob_aload_n F 0 dL_law_1991 rfl ?_
  refine ob_iload F 4 dL_law_1992 rfl ?_
  refine ob_iconst F (v := 1) dL_law_1994 (by decide) ?_
  refine ob_iadd F dL_law_1995 ?_
  refine ob_sld F hX dL_law_1996 h fun v255 h => ?_
  refine ob_aload_n F 0 dL_law_1997 rfl ?_
  refine ob_iload F 4 dL_law_1998 rfl ?_
  refine ob_iconst F (v := 2) dL_law_2000 (by decide) ?_
  refine ob_iadd F dL_law_2001 ?_
  refine ob_sld F hX dL_law_2002 h fun v256 h => ?_
  refine ob_cViS F dL_law_2003 im_X11_restrike tw4_195 h (fun b hb => t_X11_restrike hb) rfl rfl (Nat.le_of_ble_eq_true rfl) (by decide) fun v257 h => ?_
  refine ob_rload_n F 2 dL_law_2006 rfl ?_
  refine ob_aload_n F 0 dL_law_2007 rfl ?_
  refine ob_iload F 4 dL_law_2008 rfl ?_
  refine ob_iconst F (v := 1) dL_law_2010 (by decide) ?_
  refine ob_iadd F dL_law_2011 ?_
  refine ob_sld F hX dL_law_2012 h fun v258 h => ?_
  refine ob_aload_n F 0 dL_law_2013 rfl ?_
  refine ob_iload F 4 dL_law_2014 rfl ?_
  refine ob_iconst F (v := 2) dL_law_2016 (by decide) ?_
  refine ob_iadd F dL_law_2017 ?_
  refine ob_sld F hX dL_law_2018 h fun v259 h => ?_
  refine ob_cViS F dL_law_2019 im_X12_restrike tw7_157 h (fun b hb => t_X12_restrike hb) rfl rfl (Nat.le_of_ble_eq_true rfl) (by decide) fun v260 h => ?_
  refine ob_icmp_eq F 2090 dL_law_2022 (by decide) h (fun h => ?_) (fun h => ?_)
  · exact ob_wd (law_end F2 hr h)
  · exact ob_no h
def law_33 (L : Nat) (xs : Nat → Int32) (n1 n2 n3 : Nat) (rec : ob_St → Int32 → Option ob_St) (g : ob_St) (x4 : Int32) : Option ob_St :=
  (ob_ck 11 n1 (f_X11_undo g n1)).bind fun v261 => (ob_ck 12 n2 (f_X12_undo v261.2 n2)).bind fun v262 => (if v261.1 = v262.1 then (rec v262.2 (x4 + 6)) else (none))
theorem law_t33 {C : ob_Cx} {b L : Nat} {xs : Nat → Int32} {n1 n2 n3 : Nat} {rec : ob_St → Int32 → Option ob_St} {g : ob_St} {x4 : Int32} {x : ob_St} (F : ob_Fx C cL_law 8 RL (some .boolean) 11 454) (F2 : ob_Fx (ob_w C) cL_law 8 RL (some .boolean) 11 454) (hX : ob_Sc C b L xs) (hst : (ob_cf C).1.stackTraces = false) (hr : ∀ {g : ob_St} {x4 : Int32} {x : ob_St}, rec g x4 = some x → ob_Ev (ob_w C) 23 [(0, .ref b), (1, ob_rv (ob_w C) n1), (2, ob_rv (ob_w C) n2), (3, ob_rv (ob_w C) n3), (4, .int x4)] [] g) (h : law_33 L xs n1 n2 n3 rec g x4 = some x) : ob_Ev C 2027 [(0, .ref b), (1, ob_rv C n1), (2, ob_rv C n2), (3, ob_rv C n3), (4, .int x4)] [] g := by
  unfold law_33 at h
  refine ob_rload_n F 1 dL_law_2027 rfl ?_
  refine ob_cViS F dL_law_2028 im_X11_undo tw4_199 h (fun b hb => t_X11_undo hb) rfl rfl (Nat.le_of_ble_eq_true rfl) (by decide) fun v261 h => ?_
  refine ob_rload_n F 2 dL_law_2031 rfl ?_
  refine ob_cViS F dL_law_2032 im_X12_undo tw7_161 h (fun b hb => t_X12_undo hb) rfl rfl (Nat.le_of_ble_eq_true rfl) (by decide) fun v262 h => ?_
  refine ob_icmp_eq F 2090 dL_law_2035 (by decide) h (fun h => ?_) (fun h => ?_)
  · exact ob_wd (law_end F2 hr h)
  · exact ob_no h
def law_34 (L : Nat) (xs : Nat → Int32) (n1 n2 n3 : Nat) (rec : ob_St → Int32 → Option ob_St) (g : ob_St) (x4 : Int32) : Option ob_St :=
  (ob_sI L xs (x4 + 1)).bind fun v263 => (ob_ck 11 n1 (f_X11_image g n1 v263)).bind fun v264 => (ob_sI L xs (x4 + 1)).bind fun v265 => (ob_ck 12 n2 (f_X12_image v264.2 n2 v265)).bind fun v266 => (if v264.1 = v266.1 then (rec v266.2 (x4 + 6)) else (none))
theorem law_t34 {C : ob_Cx} {b L : Nat} {xs : Nat → Int32} {n1 n2 n3 : Nat} {rec : ob_St → Int32 → Option ob_St} {g : ob_St} {x4 : Int32} {x : ob_St} (F : ob_Fx C cL_law 8 RL (some .boolean) 11 454) (F2 : ob_Fx (ob_w C) cL_law 8 RL (some .boolean) 11 454) (hX : ob_Sc C b L xs) (hst : (ob_cf C).1.stackTraces = false) (hr : ∀ {g : ob_St} {x4 : Int32} {x : ob_St}, rec g x4 = some x → ob_Ev (ob_w C) 23 [(0, .ref b), (1, ob_rv (ob_w C) n1), (2, ob_rv (ob_w C) n2), (3, ob_rv (ob_w C) n3), (4, .int x4)] [] g) (h : law_34 L xs n1 n2 n3 rec g x4 = some x) : ob_Ev C 2040 [(0, .ref b), (1, ob_rv C n1), (2, ob_rv C n2), (3, ob_rv C n3), (4, .int x4)] [] g := by
  unfold law_34 at h
  refine ob_rload_n F 1 dL_law_2040 rfl ?_
  refine ob_aload_n F 0 dL_law_2041 rfl ?_
  refine ob_iload F 4 dL_law_2042 rfl ?_
  refine ob_iconst F (v := 1) dL_law_2044 (by decide) ?_
  refine ob_iadd F dL_law_2045 ?_
  refine ob_sld F hX dL_law_2046 h fun v263 h => ?_
  refine ob_cViS F dL_law_2047 im_X11_image tw4_203 h (fun b hb => t_X11_image hb) rfl rfl (Nat.le_of_ble_eq_true rfl) (by decide) fun v264 h => ?_
  refine ob_rload_n F 2 dL_law_2050 rfl ?_
  refine ob_aload_n F 0 dL_law_2051 rfl ?_
  refine ob_iload F 4 dL_law_2052 rfl ?_
  refine ob_iconst F (v := 1) dL_law_2054 (by decide) ?_
  refine ob_iadd F dL_law_2055 ?_
  refine ob_sld F hX dL_law_2056 h fun v265 h => ?_
  refine ob_cViS F dL_law_2057 im_X12_image tw7_165 h (fun b hb => t_X12_image hb) rfl rfl (Nat.le_of_ble_eq_true rfl) (by decide) fun v266 h => ?_
  refine ob_icmp_eq F 2090 dL_law_2060 (by decide) h (fun h => ?_) (fun h => ?_)
  · exact ob_wd (law_end F2 hr h)
  · exact ob_no h
def law_35 (L : Nat) (xs : Nat → Int32) (n1 n2 n3 : Nat) (rec : ob_St → Int32 → Option ob_St) (g : ob_St) (x4 : Int32) : Option ob_St :=
  (ob_sI L xs (x4 + 1)).bind fun v267 => (ob_ck 11 n1 (f_X11_restore g n1 v267)).bind fun v268 => (ob_sI L xs (x4 + 1)).bind fun v269 => (ob_ck 12 n2 (f_X12_restore v268.2 n2 v269)).bind fun v270 => (if v268.1 = v270.1 then (rec v270.2 (x4 + 6)) else (none))
theorem law_t35 {C : ob_Cx} {b L : Nat} {xs : Nat → Int32} {n1 n2 n3 : Nat} {rec : ob_St → Int32 → Option ob_St} {g : ob_St} {x4 : Int32} {x : ob_St} (F : ob_Fx C cL_law 8 RL (some .boolean) 11 454) (F2 : ob_Fx (ob_w C) cL_law 8 RL (some .boolean) 11 454) (hX : ob_Sc C b L xs) (hst : (ob_cf C).1.stackTraces = false) (hr : ∀ {g : ob_St} {x4 : Int32} {x : ob_St}, rec g x4 = some x → ob_Ev (ob_w C) 23 [(0, .ref b), (1, ob_rv (ob_w C) n1), (2, ob_rv (ob_w C) n2), (3, ob_rv (ob_w C) n3), (4, .int x4)] [] g) (h : law_35 L xs n1 n2 n3 rec g x4 = some x) : ob_Ev C 2065 [(0, .ref b), (1, ob_rv C n1), (2, ob_rv C n2), (3, ob_rv C n3), (4, .int x4)] [] g := by
  unfold law_35 at h
  refine ob_rload_n F 1 dL_law_2065 rfl ?_
  refine ob_aload_n F 0 dL_law_2066 rfl ?_
  refine ob_iload F 4 dL_law_2067 rfl ?_
  refine ob_iconst F (v := 1) dL_law_2069 (by decide) ?_
  refine ob_iadd F dL_law_2070 ?_
  refine ob_sld F hX dL_law_2071 h fun v267 h => ?_
  refine ob_cViS F dL_law_2072 im_X11_restore tw4_207 h (fun b hb => t_X11_restore hb) rfl rfl (Nat.le_of_ble_eq_true rfl) (by decide) fun v268 h => ?_
  refine ob_rload_n F 2 dL_law_2075 rfl ?_
  refine ob_aload_n F 0 dL_law_2076 rfl ?_
  refine ob_iload F 4 dL_law_2077 rfl ?_
  refine ob_iconst F (v := 1) dL_law_2079 (by decide) ?_
  refine ob_iadd F dL_law_2080 ?_
  refine ob_sld F hX dL_law_2081 h fun v269 h => ?_
  refine ob_cViS F dL_law_2082 im_X12_restore tw7_169 h (fun b hb => t_X12_restore hb) rfl rfl (Nat.le_of_ble_eq_true rfl) (by decide) fun v270 h => ?_
  refine ob_icmp_eq F 2090 dL_law_2085 (by decide) h (fun h => ?_) (fun h => ?_)
  · exact ob_wd (law_end F2 hr h)
  · exact ob_no h
def law_b (L : Nat) (xs : Nat → Int32) (n1 n2 n3 : Nat) (rec : ob_St → Int32 → Option ob_St) (g : ob_St) (x4 : Int32) : Option ob_St :=
  (if (Int32.ofNat L - 6) < x4 then some g else ((ob_sI L xs x4).bind fun v => ob_let (v &&& 63) fun z => (if z = 0 then law_0 L xs n1 n2 n3 rec g x4 else (if z = 1 then law_1 L xs n1 n2 n3 rec g x4 else (if z = 2 then law_2 L xs n1 n2 n3 rec g x4 else (if z = 3 then law_3 L xs n1 n2 n3 rec g x4 else (if z = 4 then law_4 L xs n1 n2 n3 rec g x4 else (if z = 5 then law_5 L xs n1 n2 n3 rec g x4 else (if z = 6 then law_6 L xs n1 n2 n3 rec g x4 else (if z = 7 then law_7 L xs n1 n2 n3 rec g x4 else (if z = 8 then law_8 L xs n1 n2 n3 rec g x4 else (if z = 9 then law_9 L xs n1 n2 n3 rec g x4 else (if z = 10 then law_10 L xs n1 n2 n3 rec g x4 else (if z = 11 then law_11 L xs n1 n2 n3 rec g x4 else (if z = 12 then law_12 L xs n1 n2 n3 rec g x4 else (if z = 13 then law_13 L xs n1 n2 n3 rec g x4 else (if z = 14 then law_14 L xs n1 n2 n3 rec g x4 else (if z = 15 then law_15 L xs n1 n2 n3 rec g x4 else (if z = 16 then law_16 L xs n1 n2 n3 rec g x4 else (if z = 17 then law_17 L xs n1 n2 n3 rec g x4 else (if z = 18 then law_18 L xs n1 n2 n3 rec g x4 else (if z = 19 then law_19 L xs n1 n2 n3 rec g x4 else (if z = 20 then law_20 L xs n1 n2 n3 rec g x4 else (if z = 21 then law_21 L xs n1 n2 n3 rec g x4 else (if z = 22 then law_22 L xs n1 n2 n3 rec g x4 else (if z = 23 then law_23 L xs n1 n2 n3 rec g x4 else (if z = 24 then law_24 L xs n1 n2 n3 rec g x4 else (if z = 25 then law_25 L xs n1 n2 n3 rec g x4 else (if z = 26 then law_26 L xs n1 n2 n3 rec g x4 else (if z = 27 then law_27 L xs n1 n2 n3 rec g x4 else (if z = 28 then law_28 L xs n1 n2 n3 rec g x4 else (if z = 29 then law_29 L xs n1 n2 n3 rec g x4 else (if z = 30 then law_30 L xs n1 n2 n3 rec g x4 else (if z = 31 then law_31 L xs n1 n2 n3 rec g x4 else (if z = 32 then law_32 L xs n1 n2 n3 rec g x4 else (if z = 33 then law_33 L xs n1 n2 n3 rec g x4 else (if z = 34 then law_34 L xs n1 n2 n3 rec g x4 else (if z = 35 then law_35 L xs n1 n2 n3 rec g x4 else rec g (x4 + 6)))))))))))))))))))))))))))))))))))))))
theorem law_tb {C : ob_Cx} {b L : Nat} {xs : Nat → Int32} {n1 n2 n3 : Nat} {rec : ob_St → Int32 → Option ob_St} {g : ob_St} {x4 : Int32} {x : ob_St} (F : ob_Fx C cL_law 8 RL (some .boolean) 11 454) (F2 : ob_Fx (ob_w C) cL_law 8 RL (some .boolean) 11 454) (hX : ob_Sc C b L xs) (hst : (ob_cf C).1.stackTraces = false) (hr : ∀ {g : ob_St} {x4 : Int32} {x : ob_St}, rec g x4 = some x → ob_Ev (ob_w C) 23 [(0, .ref b), (1, ob_rv (ob_w C) n1), (2, ob_rv (ob_w C) n2), (3, ob_rv (ob_w C) n3), (4, .int x4)] [] g) (h : law_b L xs n1 n2 n3 rec g x4 = some x) (k0 : ∀ g, ob_Ev C 2096 [] [] g) : ob_Ev C 23 [(0, .ref b), (1, ob_rv C n1), (2, ob_rv C n2), (3, ob_rv C n3), (4, .int x4)] [] g := by
  unfold law_b at h
  refine ob_iload F 4 dL_law_23 rfl ?_
  refine ob_aload_n F 0 dL_law_25 rfl ?_
  refine ob_slen F hX dL_law_26 ?_
  refine ob_bipush F (v := 6) dL_law_27 (by decide) ?_
  refine ob_isub F dL_law_29 ?_
  refine ob_icmp_gt F 2096 dL_law_30 (by decide) h (fun h => ?_) (fun h => ?_)
  · exact ob_sub [] rfl (k0 g)
  · refine ob_aload_n F 0 dL_law_33 rfl ?_
    refine ob_iload F 4 dL_law_34 rfl ?_
    refine ob_sld F hX dL_law_36 h fun v h => ?_
    refine ob_bipush F (v := 63) dL_law_37 (by decide) ?_
    refine ob_iand F dL_law_39 ?_
    refine ob_leti h fun z h => ?_
    by_cases c0 : z = 0
    · rw [if_pos c0] at h
      refine ob_tsi F 0 200 dL_law_40 c0 (by decide) (by decide) rfl (by decide) ?_
      exact law_t0 F F2 hX hst hr h
    rw [if_neg c0] at h
    by_cases c1 : z = 1
    · rw [if_pos c1] at h
      refine ob_tsi F 1 273 dL_law_40 c1 (by decide) (by decide) rfl (by decide) ?_
      exact law_t1 F F2 hX hst hr h
    rw [if_neg c1] at h
    by_cases c2 : z = 2
    · rw [if_pos c2] at h
      refine ob_tsi F 2 298 dL_law_40 c2 (by decide) (by decide) rfl (by decide) ?_
      exact law_t2 F F2 hX hst hr h
    rw [if_neg c2] at h
    by_cases c3 : z = 3
    · rw [if_pos c3] at h
      refine ob_tsi F 3 311 dL_law_40 c3 (by decide) (by decide) rfl (by decide) ?_
      exact law_t3 F F2 hX hst hr h
    rw [if_neg c3] at h
    by_cases c4 : z = 4
    · rw [if_pos c4] at h
      refine ob_tsi F 4 324 dL_law_40 c4 (by decide) (by decide) rfl (by decide) ?_
      exact law_t4 F F2 hX hst hr h
    rw [if_neg c4] at h
    by_cases c5 : z = 5
    · rw [if_pos c5] at h
      refine ob_tsi F 5 349 dL_law_40 c5 (by decide) (by decide) rfl (by decide) ?_
      exact law_t5 F F2 hX hst hr h
    rw [if_neg c5] at h
    by_cases c6 : z = 6
    · rw [if_pos c6] at h
      refine ob_tsi F 6 386 dL_law_40 c6 (by decide) (by decide) rfl (by decide) ?_
      exact law_t6 F F2 hX hst hr h
    rw [if_neg c6] at h
    by_cases c7 : z = 7
    · rw [if_pos c7] at h
      refine ob_tsi F 7 423 dL_law_40 c7 (by decide) (by decide) rfl (by decide) ?_
      exact law_t7 F F2 hX hst hr h
    rw [if_neg c7] at h
    by_cases c8 : z = 8
    · rw [if_pos c8] at h
      refine ob_tsi F 8 472 dL_law_40 c8 (by decide) (by decide) rfl (by decide) ?_
      exact law_t8 F F2 hX hst hr h
    rw [if_neg c8] at h
    by_cases c9 : z = 9
    · rw [if_pos c9] at h
      refine ob_tsi F 9 563 dL_law_40 c9 (by decide) (by decide) rfl (by decide) ?_
      exact law_t9 F F2 hX hst hr h
    rw [if_neg c9] at h
    by_cases c10 : z = 10
    · rw [if_pos c10] at h
      refine ob_tsi F 10 654 dL_law_40 c10 (by decide) (by decide) rfl (by decide) ?_
      exact law_t10 F F2 hX hst hr h
    rw [if_neg c10] at h
    by_cases c11 : z = 11
    · rw [if_pos c11] at h
      refine ob_tsi F 11 745 dL_law_40 c11 (by decide) (by decide) rfl (by decide) ?_
      exact law_t11 F F2 hX hst hr h
    rw [if_neg c11] at h
    by_cases c12 : z = 12
    · rw [if_pos c12] at h
      refine ob_tsi F 12 836 dL_law_40 c12 (by decide) (by decide) rfl (by decide) ?_
      exact law_t12 F F2 hX hst hr h
    rw [if_neg c12] at h
    by_cases c13 : z = 13
    · rw [if_pos c13] at h
      refine ob_tsi F 13 885 dL_law_40 c13 (by decide) (by decide) rfl (by decide) ?_
      exact law_t13 F F2 hX hst hr h
    rw [if_neg c13] at h
    by_cases c14 : z = 14
    · rw [if_pos c14] at h
      refine ob_tsi F 14 976 dL_law_40 c14 (by decide) (by decide) rfl (by decide) ?_
      exact law_t14 F F2 hX hst hr h
    rw [if_neg c14] at h
    by_cases c15 : z = 15
    · rw [if_pos c15] at h
      refine ob_tsi F 15 1013 dL_law_40 c15 (by decide) (by decide) rfl (by decide) ?_
      exact law_t15 F F2 hX hst hr h
    rw [if_neg c15] at h
    by_cases c16 : z = 16
    · rw [if_pos c16] at h
      refine ob_tsi F 16 1062 dL_law_40 c16 (by decide) (by decide) rfl (by decide) ?_
      exact law_t16 F F2 hX hst hr h
    rw [if_neg c16] at h
    by_cases c17 : z = 17
    · rw [if_pos c17] at h
      refine ob_tsi F 17 1153 dL_law_40 c17 (by decide) (by decide) rfl (by decide) ?_
      exact law_t17 F F2 hX hst hr h
    rw [if_neg c17] at h
    by_cases c18 : z = 18
    · rw [if_pos c18] at h
      refine ob_tsi F 18 1220 dL_law_40 c18 (by decide) (by decide) rfl (by decide) ?_
      exact law_t18 F F2 hX hst hr h
    rw [if_neg c18] at h
    by_cases c19 : z = 19
    · rw [if_pos c19] at h
      refine ob_tsi F 19 1311 dL_law_40 c19 (by decide) (by decide) rfl (by decide) ?_
      exact law_t19 F F2 hX hst hr h
    rw [if_neg c19] at h
    by_cases c20 : z = 20
    · rw [if_pos c20] at h
      refine ob_tsi F 20 1348 dL_law_40 c20 (by decide) (by decide) rfl (by decide) ?_
      exact law_t20 F F2 hX hst hr h
    rw [if_neg c20] at h
    by_cases c21 : z = 21
    · rw [if_pos c21] at h
      refine ob_tsi F 21 1385 dL_law_40 c21 (by decide) (by decide) rfl (by decide) ?_
      exact law_t21 F F2 hX hst hr h
    rw [if_neg c21] at h
    by_cases c22 : z = 22
    · rw [if_pos c22] at h
      refine ob_tsi F 22 1452 dL_law_40 c22 (by decide) (by decide) rfl (by decide) ?_
      exact law_t22 F F2 hX hst hr h
    rw [if_neg c22] at h
    by_cases c23 : z = 23
    · rw [if_pos c23] at h
      refine ob_tsi F 23 1543 dL_law_40 c23 (by decide) (by decide) rfl (by decide) ?_
      exact law_t23 F F2 hX hst hr h
    rw [if_neg c23] at h
    by_cases c24 : z = 24
    · rw [if_pos c24] at h
      refine ob_tsi F 24 1580 dL_law_40 c24 (by decide) (by decide) rfl (by decide) ?_
      exact law_t24 F F2 hX hst hr h
    rw [if_neg c24] at h
    by_cases c25 : z = 25
    · rw [if_pos c25] at h
      refine ob_tsi F 25 1659 dL_law_40 c25 (by decide) (by decide) rfl (by decide) ?_
      exact law_t25 F F2 hX hst hr h
    rw [if_neg c25] at h
    by_cases c26 : z = 26
    · rw [if_pos c26] at h
      refine ob_tsi F 26 1696 dL_law_40 c26 (by decide) (by decide) rfl (by decide) ?_
      exact law_t26 F F2 hX hst hr h
    rw [if_neg c26] at h
    by_cases c27 : z = 27
    · rw [if_pos c27] at h
      refine ob_tsi F 27 1775 dL_law_40 c27 (by decide) (by decide) rfl (by decide) ?_
      exact law_t27 F F2 hX hst hr h
    rw [if_neg c27] at h
    by_cases c28 : z = 28
    · rw [if_pos c28] at h
      refine ob_tsi F 28 1866 dL_law_40 c28 (by decide) (by decide) rfl (by decide) ?_
      exact law_t28 F F2 hX hst hr h
    rw [if_neg c28] at h
    by_cases c29 : z = 29
    · rw [if_pos c29] at h
      refine ob_tsi F 29 1891 dL_law_40 c29 (by decide) (by decide) rfl (by decide) ?_
      exact law_t29 F F2 hX hst hr h
    rw [if_neg c29] at h
    by_cases c30 : z = 30
    · rw [if_pos c30] at h
      refine ob_tsi F 30 1916 dL_law_40 c30 (by decide) (by decide) rfl (by decide) ?_
      exact law_t30 F F2 hX hst hr h
    rw [if_neg c30] at h
    by_cases c31 : z = 31
    · rw [if_pos c31] at h
      refine ob_tsi F 31 1953 dL_law_40 c31 (by decide) (by decide) rfl (by decide) ?_
      exact law_t31 F F2 hX hst hr h
    rw [if_neg c31] at h
    by_cases c32 : z = 32
    · rw [if_pos c32] at h
      refine ob_tsi F 32 1990 dL_law_40 c32 (by decide) (by decide) rfl (by decide) ?_
      exact law_t32 F F2 hX hst hr h
    rw [if_neg c32] at h
    by_cases c33 : z = 33
    · rw [if_pos c33] at h
      refine ob_tsi F 33 2027 dL_law_40 c33 (by decide) (by decide) rfl (by decide) ?_
      exact law_t33 F F2 hX hst hr h
    rw [if_neg c33] at h
    by_cases c34 : z = 34
    · rw [if_pos c34] at h
      refine ob_tsi F 34 2040 dL_law_40 c34 (by decide) (by decide) rfl (by decide) ?_
      exact law_t34 F F2 hX hst hr h
    rw [if_neg c34] at h
    by_cases c35 : z = 35
    · rw [if_pos c35] at h
      refine ob_tsi F 35 2065 dL_law_40 c35 (by decide) (by decide) rfl (by decide) ?_
      exact law_t35 F F2 hX hst hr h
    rw [if_neg c35] at h
    have q0 := ob_nei c0 (k := 0) rfl
    have q1 := ob_nei c1 (k := 1) rfl
    have q2 := ob_nei c2 (k := 2) rfl
    have q3 := ob_nei c3 (k := 3) rfl
    have q4 := ob_nei c4 (k := 4) rfl
    have q5 := ob_nei c5 (k := 5) rfl
    have q6 := ob_nei c6 (k := 6) rfl
    have q7 := ob_nei c7 (k := 7) rfl
    have q8 := ob_nei c8 (k := 8) rfl
    have q9 := ob_nei c9 (k := 9) rfl
    have q10 := ob_nei c10 (k := 10) rfl
    have q11 := ob_nei c11 (k := 11) rfl
    have q12 := ob_nei c12 (k := 12) rfl
    have q13 := ob_nei c13 (k := 13) rfl
    have q14 := ob_nei c14 (k := 14) rfl
    have q15 := ob_nei c15 (k := 15) rfl
    have q16 := ob_nei c16 (k := 16) rfl
    have q17 := ob_nei c17 (k := 17) rfl
    have q18 := ob_nei c18 (k := 18) rfl
    have q19 := ob_nei c19 (k := 19) rfl
    have q20 := ob_nei c20 (k := 20) rfl
    have q21 := ob_nei c21 (k := 21) rfl
    have q22 := ob_nei c22 (k := 22) rfl
    have q23 := ob_nei c23 (k := 23) rfl
    have q24 := ob_nei c24 (k := 24) rfl
    have q25 := ob_nei c25 (k := 25) rfl
    have q26 := ob_nei c26 (k := 26) rfl
    have q27 := ob_nei c27 (k := 27) rfl
    have q28 := ob_nei c28 (k := 28) rfl
    have q29 := ob_nei c29 (k := 29) rfl
    have q30 := ob_nei c30 (k := 30) rfl
    have q31 := ob_nei c31 (k := 31) rfl
    have q32 := ob_nei c32 (k := 32) rfl
    have q33 := ob_nei c33 (k := 33) rfl
    have q34 := ob_nei c34 (k := 34) rfl
    have q35 := ob_nei c35 (k := 35) rfl
    refine ob_tso F 2090 dL_law_40 (by omega) (by decide) ?_
    exact ob_wd (law_end F2 hr h)
def law_f (L : Nat) (xs : Nat → Int32) (n1 n2 n3 : Nat) : Nat → ob_St → Int32 → Option ob_St
  | 0, _, _ => none
  | n + 1, g, x4 => law_b L xs n1 n2 n3 (law_f L xs n1 n2 n3 n) g x4
