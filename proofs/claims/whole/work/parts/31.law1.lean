set_option maxRecDepth 100000 in
set_option maxHeartbeats 4000000 in
theorem lc_0 {g : GP} {l : Launch} {b Ln : Nat} {xs : Nat → Int32} {nm : String} {G : GT} {ce sl : Nat} {A : Nat → Nat → Nat} {r : Nat → Nat} {τ : CS} {σ : RS} {iv : Int32} {k : Nat} {Inv : Nat → CS → RS → Prop} (hL : IsL g l b Ln xs nm G) (hin : ∀ j : Int32, 0 < j → j < 6 → inb (iv + j) Ln = true) (hce : ce + 3 ≤ 600000) (hsl : sl + 103 ≤ 7302250) (hag : ∀ a0 : Int32, ∀ a1 : Int32, ∀ a2 : Int32, Agree Inv (N_T_yard a0 a1 a2) (M_yard a0 a1 a2)) (hk : k < 600) (hInv : Inv k τ σ) (next : ∀ (A1 : Nat → Nat → Nat) (τ1 : CS) (σ1 : RS), A1 5 99 = A 5 99 → Inv (k + 1) τ1 σ1 → G (ce + 3) (sl + 103) (wC g A1 τ1 (wR g r σ1 [])) (lL b A1 r iv) 1384 []) : G ce sl (wC g A τ (wR g r σ [])) (lL b A r iv) 200 [] := by
  have hG := hL.toG
  obtain ⟨v, τ1, σ1, q1, q2, hI⟩ := hag (xs (ix (iv + 1))) (xs (ix (iv + 2))) (xs (ix (iv + 3))) k τ σ hk hInv
  refine g_aload_n hG dL_law_200 rfl ?_
  refine g_aload_n hG dL_law_201 rfl ?_
  refine g_iload_n hG dL_law_202 rfl ?_
  refine g_iconstv hG dL_law_203 ki_1 ?_
  refine g_iadd hG dL_law_204 ?_
  refine l_sld hL dL_law_205 (hin 1 (by decide) (by decide)) ?_
  refine g_aload_n hG dL_law_206 rfl ?_
  refine g_iload_n hG dL_law_207 rfl ?_
  refine g_iconstv hG dL_law_208 ki_2 ?_
  refine g_iadd hG dL_law_209 ?_
  refine l_sld hL dL_law_210 (hin 2 (by decide) (by decide)) ?_
  refine g_aload_n hG dL_law_211 rfl ?_
  refine g_iload_n hG dL_law_212 rfl ?_
  refine g_iconstv hG dL_law_213 ki_3 ?_
  refine g_iadd hG dL_law_214 ?_
  refine l_sld hL dL_law_215 (hin 3 (by decide) (by decide)) ?_
  refine g_cV hG dL_law_216 (c_N_T_yard q1) b_X11_yard v_L_13 rfl (eT g A _ _) rfl ⟨Nat.le_of_ble_eq_true rfl, Nat.le_of_ble_eq_true rfl⟩ ⟨rfl, rfl⟩ ⟨by show ce ≤ 600000; omega, by show sl ≤ 7302250; omega⟩ _ rfl (Nat.le_of_ble_eq_true rfl) ?_
  refine g_perm hG (wperm g A τ1 r σ) ?_
  refine g_aload_n hG dL_law_219 rfl ?_
  refine g_aload_n hG dL_law_220 rfl ?_
  refine g_iload_n hG dL_law_221 rfl ?_
  refine g_iconstv hG dL_law_222 ki_1 ?_
  refine g_iadd hG dL_law_223 ?_
  refine l_sld hL dL_law_224 (hin 1 (by decide) (by decide)) ?_
  refine g_aload_n hG dL_law_225 rfl ?_
  refine g_iload_n hG dL_law_226 rfl ?_
  refine g_iconstv hG dL_law_227 ki_2 ?_
  refine g_iadd hG dL_law_228 ?_
  refine l_sld hL dL_law_229 (hin 2 (by decide) (by decide)) ?_
  refine g_aload_n hG dL_law_230 rfl ?_
  refine g_iload_n hG dL_law_231 rfl ?_
  refine g_iconstv hG dL_law_232 ki_3 ?_
  refine g_iadd hG dL_law_233 ?_
  refine l_sld hL dL_law_234 (hin 3 (by decide) (by decide)) ?_
  refine g_cV hG dL_law_235 (c_M_yard q2) b_X12_yard v_L_17 rfl (k := 0) rfl rfl ⟨Nat.le_of_ble_eq_true rfl, Nat.le_of_ble_eq_true rfl⟩ ⟨rfl, rfl⟩ ⟨by show ce ≤ 600000; omega, by show sl ≤ 7302250; omega⟩ _ rfl (Nat.le_of_ble_eq_true rfl) ?_
  refine g_perm hG (wperm g A τ1 r σ1).symm ?_
  refine g_icmp_eq (tgt := 1384) hG dL_law_238 rfl (fun _ => ?_) (fun q => absurd rfl q)
  refine g_widen hG (k := ce + 3) (n := sl + 103) (by omega) (by omega) ?_
  exact next A τ1 σ1 rfl hI
set_option maxRecDepth 100000 in
set_option maxHeartbeats 4000000 in
theorem lc_1 {g : GP} {l : Launch} {b Ln : Nat} {xs : Nat → Int32} {nm : String} {G : GT} {ce sl : Nat} {A : Nat → Nat → Nat} {r : Nat → Nat} {τ : CS} {σ : RS} {iv : Int32} {k : Nat} {Inv : Nat → CS → RS → Prop} (hL : IsL g l b Ln xs nm G) (hin : ∀ j : Int32, 0 < j → j < 6 → inb (iv + j) Ln = true) (hce : ce + 3 ≤ 600000) (hsl : sl + 103 ≤ 7302250) (hag : ∀ a0 : Int32, ∀ a1 : Int32, Agree Inv (N_T_ofYard a0 a1) (M_ofYard a0 a1)) (hk : k < 600) (hInv : Inv k τ σ) (next : ∀ (A1 : Nat → Nat → Nat) (τ1 : CS) (σ1 : RS), A1 5 99 = A 5 99 → Inv (k + 1) τ1 σ1 → G (ce + 3) (sl + 103) (wC g A1 τ1 (wR g r σ1 [])) (lL b A1 r iv) 1384 []) : G ce sl (wC g A τ (wR g r σ [])) (lL b A r iv) 243 [] := by
  have hG := hL.toG
  obtain ⟨v, τ1, σ1, q1, q2, hI⟩ := hag (xs (ix (iv + 1))) (xs (ix (iv + 2))) k τ σ hk hInv
  refine g_aload_n hG dL_law_243 rfl ?_
  refine g_aload_n hG dL_law_244 rfl ?_
  refine g_iload_n hG dL_law_245 rfl ?_
  refine g_iconstv hG dL_law_246 ki_1 ?_
  refine g_iadd hG dL_law_247 ?_
  refine l_sld hL dL_law_248 (hin 1 (by decide) (by decide)) ?_
  refine g_aload_n hG dL_law_249 rfl ?_
  refine g_iload_n hG dL_law_250 rfl ?_
  refine g_iconstv hG dL_law_251 ki_2 ?_
  refine g_iadd hG dL_law_252 ?_
  refine l_sld hL dL_law_253 (hin 2 (by decide) (by decide)) ?_
  refine g_cV hG dL_law_254 (c_N_T_ofYard q1) b_X11_ofYard v_L_18 rfl (eT g A _ _) rfl ⟨Nat.le_of_ble_eq_true rfl, Nat.le_of_ble_eq_true rfl⟩ ⟨rfl, rfl⟩ ⟨by show ce ≤ 600000; omega, by show sl ≤ 7302250; omega⟩ _ rfl (Nat.le_of_ble_eq_true rfl) ?_
  refine g_perm hG (wperm g A τ1 r σ) ?_
  refine g_aload_n hG dL_law_257 rfl ?_
  refine g_aload_n hG dL_law_258 rfl ?_
  refine g_iload_n hG dL_law_259 rfl ?_
  refine g_iconstv hG dL_law_260 ki_1 ?_
  refine g_iadd hG dL_law_261 ?_
  refine l_sld hL dL_law_262 (hin 1 (by decide) (by decide)) ?_
  refine g_aload_n hG dL_law_263 rfl ?_
  refine g_iload_n hG dL_law_264 rfl ?_
  refine g_iconstv hG dL_law_265 ki_2 ?_
  refine g_iadd hG dL_law_266 ?_
  refine l_sld hL dL_law_267 (hin 2 (by decide) (by decide)) ?_
  refine g_cV hG dL_law_268 (c_M_ofYard q2) b_X12_ofYard v_L_22 rfl (k := 0) rfl rfl ⟨Nat.le_of_ble_eq_true rfl, Nat.le_of_ble_eq_true rfl⟩ ⟨rfl, rfl⟩ ⟨by show ce ≤ 600000; omega, by show sl ≤ 7302250; omega⟩ _ rfl (Nat.le_of_ble_eq_true rfl) ?_
  refine g_perm hG (wperm g A τ1 r σ1).symm ?_
  refine g_icmp_eq (tgt := 1384) hG dL_law_271 rfl (fun _ => ?_) (fun q => absurd rfl q)
  refine g_widen hG (k := ce + 3) (n := sl + 103) (by omega) (by omega) ?_
  exact next A τ1 σ1 rfl hI
set_option maxRecDepth 100000 in
set_option maxHeartbeats 4000000 in
theorem lc_2 {g : GP} {l : Launch} {b Ln : Nat} {xs : Nat → Int32} {nm : String} {G : GT} {ce sl : Nat} {A : Nat → Nat → Nat} {r : Nat → Nat} {τ : CS} {σ : RS} {iv : Int32} {k : Nat} {Inv : Nat → CS → RS → Prop} (hL : IsL g l b Ln xs nm G) (hin : ∀ j : Int32, 0 < j → j < 6 → inb (iv + j) Ln = true) (hce : ce + 3 ≤ 600000) (hsl : sl + 103 ≤ 7302250) (hag : ∀ a0 : Int32, ∀ a1 : Int32, ∀ a2 : Int32, Agree Inv (N_T_change a0 a1 a2) (M_change a0 a1 a2)) (hk : k < 600) (hInv : Inv k τ σ) (next : ∀ (A1 : Nat → Nat → Nat) (τ1 : CS) (σ1 : RS), A1 5 99 = A 5 99 → Inv (k + 1) τ1 σ1 → G (ce + 3) (sl + 103) (wC g A1 τ1 (wR g r σ1 [])) (lL b A1 r iv) 1384 []) : G ce sl (wC g A τ (wR g r σ [])) (lL b A r iv) 276 [] := by
  have hG := hL.toG
  obtain ⟨v, τ1, σ1, q1, q2, hI⟩ := hag (xs (ix (iv + 1))) (xs (ix (iv + 2))) (xs (ix (iv + 3))) k τ σ hk hInv
  refine g_aload_n hG dL_law_276 rfl ?_
  refine g_aload_n hG dL_law_277 rfl ?_
  refine g_iload_n hG dL_law_278 rfl ?_
  refine g_iconstv hG dL_law_279 ki_1 ?_
  refine g_iadd hG dL_law_280 ?_
  refine l_sld hL dL_law_281 (hin 1 (by decide) (by decide)) ?_
  refine g_aload_n hG dL_law_282 rfl ?_
  refine g_iload_n hG dL_law_283 rfl ?_
  refine g_iconstv hG dL_law_284 ki_2 ?_
  refine g_iadd hG dL_law_285 ?_
  refine l_sld hL dL_law_286 (hin 2 (by decide) (by decide)) ?_
  refine g_aload_n hG dL_law_287 rfl ?_
  refine g_iload_n hG dL_law_288 rfl ?_
  refine g_iconstv hG dL_law_289 ki_3 ?_
  refine g_iadd hG dL_law_290 ?_
  refine l_sld hL dL_law_291 (hin 3 (by decide) (by decide)) ?_
  refine g_cV hG dL_law_292 (c_N_T_change q1) b_X11_change v_L_23 rfl (eT g A _ _) rfl ⟨Nat.le_of_ble_eq_true rfl, Nat.le_of_ble_eq_true rfl⟩ ⟨rfl, rfl⟩ ⟨by show ce ≤ 600000; omega, by show sl ≤ 7302250; omega⟩ _ rfl (Nat.le_of_ble_eq_true rfl) ?_
  refine g_perm hG (wperm g A τ1 r σ) ?_
  refine g_aload_n hG dL_law_295 rfl ?_
  refine g_aload_n hG dL_law_296 rfl ?_
  refine g_iload_n hG dL_law_297 rfl ?_
  refine g_iconstv hG dL_law_298 ki_1 ?_
  refine g_iadd hG dL_law_299 ?_
  refine l_sld hL dL_law_300 (hin 1 (by decide) (by decide)) ?_
  refine g_aload_n hG dL_law_301 rfl ?_
  refine g_iload_n hG dL_law_302 rfl ?_
  refine g_iconstv hG dL_law_303 ki_2 ?_
  refine g_iadd hG dL_law_304 ?_
  refine l_sld hL dL_law_305 (hin 2 (by decide) (by decide)) ?_
  refine g_aload_n hG dL_law_306 rfl ?_
  refine g_iload_n hG dL_law_307 rfl ?_
  refine g_iconstv hG dL_law_308 ki_3 ?_
  refine g_iadd hG dL_law_309 ?_
  refine l_sld hL dL_law_310 (hin 3 (by decide) (by decide)) ?_
  refine g_cV hG dL_law_311 (c_M_change q2) b_X12_change v_L_26 rfl (k := 0) rfl rfl ⟨Nat.le_of_ble_eq_true rfl, Nat.le_of_ble_eq_true rfl⟩ ⟨rfl, rfl⟩ ⟨by show ce ≤ 600000; omega, by show sl ≤ 7302250; omega⟩ _ rfl (Nat.le_of_ble_eq_true rfl) ?_
  refine g_perm hG (wperm g A τ1 r σ1).symm ?_
  refine g_icmp_eq (tgt := 1384) hG dL_law_314 rfl (fun _ => ?_) (fun q => absurd rfl q)
  refine g_widen hG (k := ce + 3) (n := sl + 103) (by omega) (by omega) ?_
  exact next A τ1 σ1 rfl hI
set_option maxRecDepth 100000 in
set_option maxHeartbeats 4000000 in
theorem lc_3 {g : GP} {l : Launch} {b Ln : Nat} {xs : Nat → Int32} {nm : String} {G : GT} {ce sl : Nat} {A : Nat → Nat → Nat} {r : Nat → Nat} {τ : CS} {σ : RS} {iv : Int32} {k : Nat} {Inv : Nat → CS → RS → Prop} (hL : IsL g l b Ln xs nm G) (hin : ∀ j : Int32, 0 < j → j < 6 → inb (iv + j) Ln = true) (hce : ce + 3 ≤ 600000) (hsl : sl + 103 ≤ 7302250) (hag : ∀ a0 : Int32, ∀ a1 : Int32, Agree Inv (N_T_set a0 a1) (M_set a0 a1)) (hk : k < 600) (hInv : Inv k τ σ) (next : ∀ (A1 : Nat → Nat → Nat) (τ1 : CS) (σ1 : RS), A1 5 99 = A 5 99 → Inv (k + 1) τ1 σ1 → G (ce + 3) (sl + 103) (wC g A1 τ1 (wR g r σ1 [])) (lL b A1 r iv) 1384 []) : G ce sl (wC g A τ (wR g r σ [])) (lL b A r iv) 319 [] := by
  have hG := hL.toG
  obtain ⟨v, τ1, σ1, q1, q2, hI⟩ := hag (xs (ix (iv + 1))) (xs (ix (iv + 2))) k τ σ hk hInv
  refine g_aload_n hG dL_law_319 rfl ?_
  refine g_aload_n hG dL_law_320 rfl ?_
  refine g_iload_n hG dL_law_321 rfl ?_
  refine g_iconstv hG dL_law_322 ki_1 ?_
  refine g_iadd hG dL_law_323 ?_
  refine l_sld hL dL_law_324 (hin 1 (by decide) (by decide)) ?_
  refine g_aload_n hG dL_law_325 rfl ?_
  refine g_iload_n hG dL_law_326 rfl ?_
  refine g_iconstv hG dL_law_327 ki_2 ?_
  refine g_iadd hG dL_law_328 ?_
  refine l_sld hL dL_law_329 (hin 2 (by decide) (by decide)) ?_
  refine g_cV hG dL_law_330 (c_N_T_set q1) b_X11_set v_L_27 rfl (eT g A _ _) rfl ⟨Nat.le_of_ble_eq_true rfl, Nat.le_of_ble_eq_true rfl⟩ ⟨rfl, rfl⟩ ⟨by show ce ≤ 600000; omega, by show sl ≤ 7302250; omega⟩ _ rfl (Nat.le_of_ble_eq_true rfl) ?_
  refine g_perm hG (wperm g A τ1 r σ) ?_
  refine g_aload_n hG dL_law_333 rfl ?_
  refine g_aload_n hG dL_law_334 rfl ?_
  refine g_iload_n hG dL_law_335 rfl ?_
  refine g_iconstv hG dL_law_336 ki_1 ?_
  refine g_iadd hG dL_law_337 ?_
  refine l_sld hL dL_law_338 (hin 1 (by decide) (by decide)) ?_
  refine g_aload_n hG dL_law_339 rfl ?_
  refine g_iload_n hG dL_law_340 rfl ?_
  refine g_iconstv hG dL_law_341 ki_2 ?_
  refine g_iadd hG dL_law_342 ?_
  refine l_sld hL dL_law_343 (hin 2 (by decide) (by decide)) ?_
  refine g_cV hG dL_law_344 (c_M_set q2) b_X12_set v_L_30 rfl (k := 0) rfl rfl ⟨Nat.le_of_ble_eq_true rfl, Nat.le_of_ble_eq_true rfl⟩ ⟨rfl, rfl⟩ ⟨by show ce ≤ 600000; omega, by show sl ≤ 7302250; omega⟩ _ rfl (Nat.le_of_ble_eq_true rfl) ?_
  refine g_perm hG (wperm g A τ1 r σ1).symm ?_
  refine g_icmp_eq (tgt := 1384) hG dL_law_347 rfl (fun _ => ?_) (fun q => absurd rfl q)
  refine g_widen hG (k := ce + 3) (n := sl + 103) (by omega) (by omega) ?_
  exact next A τ1 σ1 rfl hI
set_option maxRecDepth 100000 in
set_option maxHeartbeats 4000000 in
theorem lc_4 {g : GP} {l : Launch} {b Ln : Nat} {xs : Nat → Int32} {nm : String} {G : GT} {ce sl : Nat} {A : Nat → Nat → Nat} {r : Nat → Nat} {τ : CS} {σ : RS} {iv : Int32} {k : Nat} {Inv : Nat → CS → RS → Prop} (hL : IsL g l b Ln xs nm G) (hin : ∀ j : Int32, 0 < j → j < 6 → inb (iv + j) Ln = true) (hce : ce + 3 ≤ 600000) (hsl : sl + 103 ≤ 7302250) (hag : ∀ a0 : Int32, ∀ a1 : Int32, Agree Inv (N_T_become a0 a1) (M_become a0 a1)) (hk : k < 600) (hInv : Inv k τ σ) (next : ∀ (A1 : Nat → Nat → Nat) (τ1 : CS) (σ1 : RS), A1 5 99 = A 5 99 → Inv (k + 1) τ1 σ1 → G (ce + 3) (sl + 103) (wC g A1 τ1 (wR g r σ1 [])) (lL b A1 r iv) 1384 []) : G ce sl (wC g A τ (wR g r σ [])) (lL b A r iv) 352 [] := by
  have hG := hL.toG
  obtain ⟨v, τ1, σ1, q1, q2, hI⟩ := hag (xs (ix (iv + 1))) (xs (ix (iv + 2))) k τ σ hk hInv
  refine g_aload_n hG dL_law_352 rfl ?_
  refine g_aload_n hG dL_law_353 rfl ?_
  refine g_iload_n hG dL_law_354 rfl ?_
  refine g_iconstv hG dL_law_355 ki_1 ?_
  refine g_iadd hG dL_law_356 ?_
  refine l_sld hL dL_law_357 (hin 1 (by decide) (by decide)) ?_
  refine g_aload_n hG dL_law_358 rfl ?_
  refine g_iload_n hG dL_law_359 rfl ?_
  refine g_iconstv hG dL_law_360 ki_2 ?_
  refine g_iadd hG dL_law_361 ?_
  refine l_sld hL dL_law_362 (hin 2 (by decide) (by decide)) ?_
  refine g_cV hG dL_law_363 (c_N_T_become q1) b_X11_become v_L_31 rfl (eT g A _ _) rfl ⟨Nat.le_of_ble_eq_true rfl, Nat.le_of_ble_eq_true rfl⟩ ⟨rfl, rfl⟩ ⟨by show ce ≤ 600000; omega, by show sl ≤ 7302250; omega⟩ _ rfl (Nat.le_of_ble_eq_true rfl) ?_
  refine g_perm hG (wperm g A τ1 r σ) ?_
  refine g_aload_n hG dL_law_366 rfl ?_
  refine g_aload_n hG dL_law_367 rfl ?_
  refine g_iload_n hG dL_law_368 rfl ?_
  refine g_iconstv hG dL_law_369 ki_1 ?_
  refine g_iadd hG dL_law_370 ?_
  refine l_sld hL dL_law_371 (hin 1 (by decide) (by decide)) ?_
  refine g_aload_n hG dL_law_372 rfl ?_
  refine g_iload_n hG dL_law_373 rfl ?_
  refine g_iconstv hG dL_law_374 ki_2 ?_
  refine g_iadd hG dL_law_375 ?_
  refine l_sld hL dL_law_376 (hin 2 (by decide) (by decide)) ?_
  refine g_cV hG dL_law_377 (c_M_become q2) b_X12_become v_L_34 rfl (k := 0) rfl rfl ⟨Nat.le_of_ble_eq_true rfl, Nat.le_of_ble_eq_true rfl⟩ ⟨rfl, rfl⟩ ⟨by show ce ≤ 600000; omega, by show sl ≤ 7302250; omega⟩ _ rfl (Nat.le_of_ble_eq_true rfl) ?_
  refine g_perm hG (wperm g A τ1 r σ1).symm ?_
  refine g_icmp_eq (tgt := 1384) hG dL_law_380 rfl (fun _ => ?_) (fun q => absurd rfl q)
  refine g_widen hG (k := ce + 3) (n := sl + 103) (by omega) (by omega) ?_
  exact next A τ1 σ1 rfl hI
set_option maxRecDepth 100000 in
set_option maxHeartbeats 4000000 in
theorem lc_5 {g : GP} {l : Launch} {b Ln : Nat} {xs : Nat → Int32} {nm : String} {G : GT} {ce sl : Nat} {A : Nat → Nat → Nat} {r : Nat → Nat} {τ : CS} {σ : RS} {iv : Int32} {k : Nat} {Inv : Nat → CS → RS → Prop} (hL : IsL g l b Ln xs nm G) (hin : ∀ j : Int32, 0 < j → j < 6 → inb (iv + j) Ln = true) (hce : ce + 3 ≤ 600000) (hsl : sl + 103 ≤ 7302250) (hag : ∀ a0 : Int32, ∀ a1 : Int32, Agree Inv (N_T_as a0 a1) (M_as a0 a1)) (hk : k < 600) (hInv : Inv k τ σ) (next : ∀ (A1 : Nat → Nat → Nat) (τ1 : CS) (σ1 : RS), A1 5 99 = A 5 99 → Inv (k + 1) τ1 σ1 → G (ce + 3) (sl + 103) (wC g A1 τ1 (wR g r σ1 [])) (lL b A1 r iv) 1384 []) : G ce sl (wC g A τ (wR g r σ [])) (lL b A r iv) 385 [] := by
  have hG := hL.toG
  obtain ⟨v, τ1, σ1, q1, q2, hI⟩ := hag (xs (ix (iv + 1))) (xs (ix (iv + 2))) k τ σ hk hInv
  refine g_aload_n hG dL_law_385 rfl ?_
  refine g_aload_n hG dL_law_386 rfl ?_
  refine g_iload_n hG dL_law_387 rfl ?_
  refine g_iconstv hG dL_law_388 ki_1 ?_
  refine g_iadd hG dL_law_389 ?_
  refine l_sld hL dL_law_390 (hin 1 (by decide) (by decide)) ?_
  refine g_aload_n hG dL_law_391 rfl ?_
  refine g_iload_n hG dL_law_392 rfl ?_
  refine g_iconstv hG dL_law_393 ki_2 ?_
  refine g_iadd hG dL_law_394 ?_
  refine l_sld hL dL_law_395 (hin 2 (by decide) (by decide)) ?_
  refine g_cV hG dL_law_396 (c_N_T_as q1) b_X11_as v_L_35 rfl (eT g A _ _) rfl ⟨Nat.le_of_ble_eq_true rfl, Nat.le_of_ble_eq_true rfl⟩ ⟨rfl, rfl⟩ ⟨by show ce ≤ 600000; omega, by show sl ≤ 7302250; omega⟩ _ rfl (Nat.le_of_ble_eq_true rfl) ?_
  refine g_perm hG (wperm g A τ1 r σ) ?_
  refine g_aload_n hG dL_law_399 rfl ?_
  refine g_aload_n hG dL_law_400 rfl ?_
  refine g_iload_n hG dL_law_401 rfl ?_
  refine g_iconstv hG dL_law_402 ki_1 ?_
  refine g_iadd hG dL_law_403 ?_
  refine l_sld hL dL_law_404 (hin 1 (by decide) (by decide)) ?_
  refine g_aload_n hG dL_law_405 rfl ?_
  refine g_iload_n hG dL_law_406 rfl ?_
  refine g_iconstv hG dL_law_407 ki_2 ?_
  refine g_iadd hG dL_law_408 ?_
  refine l_sld hL dL_law_409 (hin 2 (by decide) (by decide)) ?_
  refine g_cV hG dL_law_410 (c_M_as q2) b_X12_as v_L_38 rfl (k := 0) rfl rfl ⟨Nat.le_of_ble_eq_true rfl, Nat.le_of_ble_eq_true rfl⟩ ⟨rfl, rfl⟩ ⟨by show ce ≤ 600000; omega, by show sl ≤ 7302250; omega⟩ _ rfl (Nat.le_of_ble_eq_true rfl) ?_
  refine g_perm hG (wperm g A τ1 r σ1).symm ?_
  refine g_icmp_eq (tgt := 1384) hG dL_law_413 rfl (fun _ => ?_) (fun q => absurd rfl q)
  refine g_widen hG (k := ce + 3) (n := sl + 103) (by omega) (by omega) ?_
  exact next A τ1 σ1 rfl hI
set_option maxRecDepth 100000 in
set_option maxHeartbeats 4000000 in
theorem lc_6 {g : GP} {l : Launch} {b Ln : Nat} {xs : Nat → Int32} {nm : String} {G : GT} {ce sl : Nat} {A : Nat → Nat → Nat} {r : Nat → Nat} {τ : CS} {σ : RS} {iv : Int32} {k : Nat} {Inv : Nat → CS → RS → Prop} (hL : IsL g l b Ln xs nm G) (hin : ∀ j : Int32, 0 < j → j < 6 → inb (iv + j) Ln = true) (hce : ce + 3 ≤ 600000) (hsl : sl + 103 ≤ 7302250) (hag : ∀ a0 : Int32, ∀ a1 : Int32, Agree Inv (N_T_sign a0 a1) (M_sign a0 a1)) (hk : k < 600) (hInv : Inv k τ σ) (next : ∀ (A1 : Nat → Nat → Nat) (τ1 : CS) (σ1 : RS), A1 5 99 = A 5 99 → Inv (k + 1) τ1 σ1 → G (ce + 3) (sl + 103) (wC g A1 τ1 (wR g r σ1 [])) (lL b A1 r iv) 1384 []) : G ce sl (wC g A τ (wR g r σ [])) (lL b A r iv) 418 [] := by
  have hG := hL.toG
  obtain ⟨v, τ1, σ1, q1, q2, hI⟩ := hag (xs (ix (iv + 1))) (xs (ix (iv + 2))) k τ σ hk hInv
  refine g_aload_n hG dL_law_418 rfl ?_
  refine g_aload_n hG dL_law_419 rfl ?_
  refine g_iload_n hG dL_law_420 rfl ?_
  refine g_iconstv hG dL_law_421 ki_1 ?_
  refine g_iadd hG dL_law_422 ?_
  refine l_sld hL dL_law_423 (hin 1 (by decide) (by decide)) ?_
  refine g_aload_n hG dL_law_424 rfl ?_
  refine g_iload_n hG dL_law_425 rfl ?_
  refine g_iconstv hG dL_law_426 ki_2 ?_
  refine g_iadd hG dL_law_427 ?_
  refine l_sld hL dL_law_428 (hin 2 (by decide) (by decide)) ?_
  refine g_cV hG dL_law_429 (c_N_T_sign q1) b_X11_sign v_L_39 rfl (eT g A _ _) rfl ⟨Nat.le_of_ble_eq_true rfl, Nat.le_of_ble_eq_true rfl⟩ ⟨rfl, rfl⟩ ⟨by show ce ≤ 600000; omega, by show sl ≤ 7302250; omega⟩ _ rfl (Nat.le_of_ble_eq_true rfl) ?_
  refine g_perm hG (wperm g A τ1 r σ) ?_
  refine g_aload_n hG dL_law_432 rfl ?_
  refine g_aload_n hG dL_law_433 rfl ?_
  refine g_iload_n hG dL_law_434 rfl ?_
  refine g_iconstv hG dL_law_435 ki_1 ?_
  refine g_iadd hG dL_law_436 ?_
  refine l_sld hL dL_law_437 (hin 1 (by decide) (by decide)) ?_
  refine g_aload_n hG dL_law_438 rfl ?_
  refine g_iload_n hG dL_law_439 rfl ?_
  refine g_iconstv hG dL_law_440 ki_2 ?_
  refine g_iadd hG dL_law_441 ?_
  refine l_sld hL dL_law_442 (hin 2 (by decide) (by decide)) ?_
  refine g_cV hG dL_law_443 (c_M_sign q2) b_X12_sign v_L_42 rfl (k := 0) rfl rfl ⟨Nat.le_of_ble_eq_true rfl, Nat.le_of_ble_eq_true rfl⟩ ⟨rfl, rfl⟩ ⟨by show ce ≤ 600000; omega, by show sl ≤ 7302250; omega⟩ _ rfl (Nat.le_of_ble_eq_true rfl) ?_
  refine g_perm hG (wperm g A τ1 r σ1).symm ?_
  refine g_icmp_eq (tgt := 1384) hG dL_law_446 rfl (fun _ => ?_) (fun q => absurd rfl q)
  refine g_widen hG (k := ce + 3) (n := sl + 103) (by omega) (by omega) ?_
  exact next A τ1 σ1 rfl hI
set_option maxRecDepth 100000 in
set_option maxHeartbeats 4000000 in
theorem lc_7 {g : GP} {l : Launch} {b Ln : Nat} {xs : Nat → Int32} {nm : String} {G : GT} {ce sl : Nat} {A : Nat → Nat → Nat} {r : Nat → Nat} {τ : CS} {σ : RS} {iv : Int32} {k : Nat} {Inv : Nat → CS → RS → Prop} (hL : IsL g l b Ln xs nm G) (hin : ∀ j : Int32, 0 < j → j < 6 → inb (iv + j) Ln = true) (hce : ce + 3 ≤ 600000) (hsl : sl + 103 ≤ 7302250) (hag : ∀ a0 : Int64, ∀ a1 : Int32, Agree Inv (N_T_feed a0 a1) (M_feed a0 a1)) (hk : k < 600) (hInv : Inv k τ σ) (next : ∀ (A1 : Nat → Nat → Nat) (τ1 : CS) (σ1 : RS), A1 5 99 = A 5 99 → Inv (k + 1) τ1 σ1 → G (ce + 3) (sl + 103) (wC g A1 τ1 (wR g r σ1 [])) (lL b A1 r iv) 1384 []) : G ce sl (wC g A τ (wR g r σ [])) (lL b A r iv) 451 [] := by
  have hG := hL.toG
  obtain ⟨v, τ1, σ1, q1, q2, hI⟩ := hag (((xs (ix (iv + 1))).toInt64 <<< ((32 : Int32).toInt64 &&& 63)) ||| ((xs (ix (iv + 2))).toInt64 &&& (4294967295 : Int64))) (xs (ix (iv + 3))) k τ σ hk hInv
  refine g_aload_n hG dL_law_451 rfl ?_
  refine g_aload_n hG dL_law_452 rfl ?_
  refine g_iload_n hG dL_law_453 rfl ?_
  refine g_iconstv hG dL_law_454 ki_1 ?_
  refine g_iadd hG dL_law_455 ?_
  refine l_sld hL dL_law_456 (hin 1 (by decide) (by decide)) ?_
  refine g_i2l hG dL_law_457 ?_
  refine g_bipushv hG dL_law_458 kb_32 ?_
  refine g_lshl hG dL_law_460 ?_
  refine g_aload_n hG dL_law_461 rfl ?_
  refine g_iload_n hG dL_law_462 rfl ?_
  refine g_iconstv hG dL_law_463 ki_2 ?_
  refine g_iadd hG dL_law_464 ?_
  refine l_sld hL dL_law_465 (hin 2 (by decide) (by decide)) ?_
  refine g_i2l hG dL_law_466 ?_
  refine g_ldc2 hG dL_law_467 k_L_43 ?_
  refine g_land hG dL_law_470 ?_
  refine g_lor hG dL_law_471 ?_
  refine g_aload_n hG dL_law_472 rfl ?_
  refine g_iload_n hG dL_law_473 rfl ?_
  refine g_iconstv hG dL_law_474 ki_3 ?_
  refine g_iadd hG dL_law_475 ?_
  refine l_sld hL dL_law_476 (hin 3 (by decide) (by decide)) ?_
  refine g_cV hG dL_law_477 (c_N_T_feed q1) b_X11_feed v_L_45 rfl (eT g A _ _) rfl ⟨Nat.le_of_ble_eq_true rfl, Nat.le_of_ble_eq_true rfl⟩ ⟨rfl, rfl⟩ ⟨by show ce ≤ 600000; omega, by show sl ≤ 7302250; omega⟩ _ rfl (Nat.le_of_ble_eq_true rfl) ?_
  refine g_perm hG (wperm g A τ1 r σ) ?_
  refine g_aload_n hG dL_law_480 rfl ?_
  refine g_aload_n hG dL_law_481 rfl ?_
  refine g_iload_n hG dL_law_482 rfl ?_
  refine g_iconstv hG dL_law_483 ki_1 ?_
  refine g_iadd hG dL_law_484 ?_
  refine l_sld hL dL_law_485 (hin 1 (by decide) (by decide)) ?_
  refine g_i2l hG dL_law_486 ?_
  refine g_bipushv hG dL_law_487 kb_32 ?_
  refine g_lshl hG dL_law_489 ?_
  refine g_aload_n hG dL_law_490 rfl ?_
  refine g_iload_n hG dL_law_491 rfl ?_
  refine g_iconstv hG dL_law_492 ki_2 ?_
  refine g_iadd hG dL_law_493 ?_
  refine l_sld hL dL_law_494 (hin 2 (by decide) (by decide)) ?_
  refine g_i2l hG dL_law_495 ?_
  refine g_ldc2 hG dL_law_496 k_L_43 ?_
  refine g_land hG dL_law_499 ?_
  refine g_lor hG dL_law_500 ?_
  refine g_aload_n hG dL_law_501 rfl ?_
  refine g_iload_n hG dL_law_502 rfl ?_
  refine g_iconstv hG dL_law_503 ki_3 ?_
  refine g_iadd hG dL_law_504 ?_
  refine l_sld hL dL_law_505 (hin 3 (by decide) (by decide)) ?_
  refine g_cV hG dL_law_506 (c_M_feed q2) b_X12_feed v_L_49 rfl (k := 0) rfl rfl ⟨Nat.le_of_ble_eq_true rfl, Nat.le_of_ble_eq_true rfl⟩ ⟨rfl, rfl⟩ ⟨by show ce ≤ 600000; omega, by show sl ≤ 7302250; omega⟩ _ rfl (Nat.le_of_ble_eq_true rfl) ?_
  refine g_perm hG (wperm g A τ1 r σ1).symm ?_
  refine g_icmp_eq (tgt := 1384) hG dL_law_509 rfl (fun _ => ?_) (fun q => absurd rfl q)
  refine g_widen hG (k := ce + 3) (n := sl + 103) (by omega) (by omega) ?_
  exact next A τ1 σ1 rfl hI
set_option maxRecDepth 100000 in
set_option maxHeartbeats 4000000 in
theorem lc_8 {g : GP} {l : Launch} {b Ln : Nat} {xs : Nat → Int32} {nm : String} {G : GT} {ce sl : Nat} {A : Nat → Nat → Nat} {r : Nat → Nat} {τ : CS} {σ : RS} {iv : Int32} {k : Nat} {Inv : Nat → CS → RS → Prop} (hL : IsL g l b Ln xs nm G) (hin : ∀ j : Int32, 0 < j → j < 6 → inb (iv + j) Ln = true) (hce : ce + 3 ≤ 600000) (hsl : sl + 103 ≤ 7302250) (hag : ∀ a0 : Int32, Agree Inv (N_T_text a0) (M_text a0)) (hk : k < 600) (hInv : Inv k τ σ) (next : ∀ (A1 : Nat → Nat → Nat) (τ1 : CS) (σ1 : RS), A1 5 99 = A 5 99 → Inv (k + 1) τ1 σ1 → G (ce + 3) (sl + 103) (wC g A1 τ1 (wR g r σ1 [])) (lL b A1 r iv) 1384 []) : G ce sl (wC g A τ (wR g r σ [])) (lL b A r iv) 514 [] := by
  have hG := hL.toG
  obtain ⟨v, τ1, σ1, q1, q2, hI⟩ := hag (xs (ix (iv + 1))) k τ σ hk hInv
  refine g_aload_n hG dL_law_514 rfl ?_
  refine g_aload_n hG dL_law_515 rfl ?_
  refine g_iload_n hG dL_law_516 rfl ?_
  refine g_iconstv hG dL_law_517 ki_1 ?_
  refine g_iadd hG dL_law_518 ?_
  refine l_sld hL dL_law_519 (hin 1 (by decide) (by decide)) ?_
  refine g_callV_i hG dL_law_520 (c_N_T_text q1) b_X11_text v_L_50 rfl (eT g A _ _) rfl ⟨Nat.le_of_ble_eq_true rfl, Nat.le_of_ble_eq_true rfl⟩ (Nat.le_of_ble_eq_true rfl) ⟨by show ce + 3 ≤ 600000; omega, by show sl + 103 ≤ 7302250; omega⟩ (fun r0 w0 hw0 => ?_)
  obtain ⟨rfl, A1, hA1, rfl⟩ := hw0
  show G (ce + 3) (sl + 103) _ _ _ _
  refine g_perm hG (wperm g A1 τ1 r σ) ?_
  refine g_aload_n hG dL_law_523 rfl ?_
  refine g_aload_n hG dL_law_524 rfl ?_
  refine g_iload_n hG dL_law_525 rfl ?_
  refine g_iconstv hG dL_law_526 ki_1 ?_
  refine g_iadd hG dL_law_527 ?_
  refine l_sld hL dL_law_528 (hin 1 (by decide) (by decide)) ?_
  refine g_cV hG dL_law_529 (c_M_text q2) b_X12_text v_L_54 rfl (k := 0) rfl rfl ⟨Nat.le_of_ble_eq_true rfl, Nat.le_of_ble_eq_true rfl⟩ ⟨rfl, rfl⟩ ⟨by show ce + 3 ≤ 600000; omega, by show sl + 103 ≤ 7302250; omega⟩ _ rfl (Nat.le_of_ble_eq_true rfl) ?_
  refine g_perm hG (wperm g A1 τ1 r σ1).symm ?_
  refine g_icmp_eq (tgt := 1384) hG dL_law_532 rfl (fun _ => ?_) (fun q => absurd rfl q)
  refine g_loc hG (lL b A1 r iv) ⟨rfl, by rw [hA1 5 99 (by decide)]; rfl, rfl, rfl, trivial⟩ ?_
  exact next A1 τ1 σ1 (hA1 5 99 (by decide)) hI
set_option maxRecDepth 100000 in
set_option maxHeartbeats 4000000 in
theorem lc_9 {g : GP} {l : Launch} {b Ln : Nat} {xs : Nat → Int32} {nm : String} {G : GT} {ce sl : Nat} {A : Nat → Nat → Nat} {r : Nat → Nat} {τ : CS} {σ : RS} {iv : Int32} {k : Nat} {Inv : Nat → CS → RS → Prop} (hL : IsL g l b Ln xs nm G) (hin : ∀ j : Int32, 0 < j → j < 6 → inb (iv + j) Ln = true) (hce : ce + 3 ≤ 600000) (hsl : sl + 103 ≤ 7302250) (hag : ∀ a0 : Int32, ∀ a1 : Int32, ∀ a2 : Int32, ∀ a3 : Int32, Agree Inv (N_T_law a0 a1 a2 a3) (M_law a0 a1 a2 a3)) (hk : k < 600) (hInv : Inv k τ σ) (next : ∀ (A1 : Nat → Nat → Nat) (τ1 : CS) (σ1 : RS), A1 5 99 = A 5 99 → Inv (k + 1) τ1 σ1 → G (ce + 3) (sl + 103) (wC g A1 τ1 (wR g r σ1 [])) (lL b A1 r iv) 1384 []) : G ce sl (wC g A τ (wR g r σ [])) (lL b A r iv) 537 [] := by
  have hG := hL.toG
  obtain ⟨v, τ1, σ1, q1, q2, hI⟩ := hag (xs (ix (iv + 1))) (xs (ix (iv + 2))) (xs (ix (iv + 3))) (xs (ix (iv + 4))) k τ σ hk hInv
  refine g_aload_n hG dL_law_537 rfl ?_
  refine g_aload_n hG dL_law_538 rfl ?_
  refine g_iload_n hG dL_law_539 rfl ?_
  refine g_iconstv hG dL_law_540 ki_1 ?_
  refine g_iadd hG dL_law_541 ?_
  refine l_sld hL dL_law_542 (hin 1 (by decide) (by decide)) ?_
  refine g_aload_n hG dL_law_543 rfl ?_
  refine g_iload_n hG dL_law_544 rfl ?_
  refine g_iconstv hG dL_law_545 ki_2 ?_
  refine g_iadd hG dL_law_546 ?_
  refine l_sld hL dL_law_547 (hin 2 (by decide) (by decide)) ?_
  refine g_aload_n hG dL_law_548 rfl ?_
  refine g_iload_n hG dL_law_549 rfl ?_
  refine g_iconstv hG dL_law_550 ki_3 ?_
  refine g_iadd hG dL_law_551 ?_
  refine l_sld hL dL_law_552 (hin 3 (by decide) (by decide)) ?_
  refine g_aload_n hG dL_law_553 rfl ?_
  refine g_iload_n hG dL_law_554 rfl ?_
  refine g_iconstv hG dL_law_555 ki_4 ?_
  refine g_iadd hG dL_law_556 ?_
  refine l_sld hL dL_law_557 (hin 4 (by decide) (by decide)) ?_
  refine g_cV hG dL_law_558 (c_N_T_law q1) b_X11_law v_L_55 rfl (eT g A _ _) rfl ⟨Nat.le_of_ble_eq_true rfl, Nat.le_of_ble_eq_true rfl⟩ ⟨rfl, rfl⟩ ⟨by show ce ≤ 600000; omega, by show sl ≤ 7302250; omega⟩ _ rfl (Nat.le_of_ble_eq_true rfl) ?_
  refine g_perm hG (wperm g A τ1 r σ) ?_
  refine g_aload_n hG dL_law_561 rfl ?_
  refine g_aload_n hG dL_law_562 rfl ?_
  refine g_iload_n hG dL_law_563 rfl ?_
  refine g_iconstv hG dL_law_564 ki_1 ?_
  refine g_iadd hG dL_law_565 ?_
  refine l_sld hL dL_law_566 (hin 1 (by decide) (by decide)) ?_
  refine g_aload_n hG dL_law_567 rfl ?_
  refine g_iload_n hG dL_law_568 rfl ?_
  refine g_iconstv hG dL_law_569 ki_2 ?_
  refine g_iadd hG dL_law_570 ?_
  refine l_sld hL dL_law_571 (hin 2 (by decide) (by decide)) ?_
  refine g_aload_n hG dL_law_572 rfl ?_
  refine g_iload_n hG dL_law_573 rfl ?_
  refine g_iconstv hG dL_law_574 ki_3 ?_
  refine g_iadd hG dL_law_575 ?_
  refine l_sld hL dL_law_576 (hin 3 (by decide) (by decide)) ?_
  refine g_aload_n hG dL_law_577 rfl ?_
  refine g_iload_n hG dL_law_578 rfl ?_
  refine g_iconstv hG dL_law_579 ki_4 ?_
  refine g_iadd hG dL_law_580 ?_
  refine l_sld hL dL_law_581 (hin 4 (by decide) (by decide)) ?_
  refine g_cV hG dL_law_582 (c_M_law q2) b_X12_law v_L_59 rfl (k := 0) rfl rfl ⟨Nat.le_of_ble_eq_true rfl, Nat.le_of_ble_eq_true rfl⟩ ⟨rfl, rfl⟩ ⟨by show ce ≤ 600000; omega, by show sl ≤ 7302250; omega⟩ _ rfl (Nat.le_of_ble_eq_true rfl) ?_
  refine g_perm hG (wperm g A τ1 r σ1).symm ?_
  refine g_icmp_eq (tgt := 1384) hG dL_law_585 rfl (fun _ => ?_) (fun q => absurd rfl q)
  refine g_widen hG (k := ce + 3) (n := sl + 103) (by omega) (by omega) ?_
  exact next A τ1 σ1 rfl hI
set_option maxRecDepth 100000 in
set_option maxHeartbeats 4000000 in
theorem lc_10 {g : GP} {l : Launch} {b Ln : Nat} {xs : Nat → Int32} {nm : String} {G : GT} {ce sl : Nat} {A : Nat → Nat → Nat} {r : Nat → Nat} {τ : CS} {σ : RS} {iv : Int32} {k : Nat} {Inv : Nat → CS → RS → Prop} (hL : IsL g l b Ln xs nm G) (hin : ∀ j : Int32, 0 < j → j < 6 → inb (iv + j) Ln = true) (hce : ce + 3 ≤ 600000) (hsl : sl + 103 ≤ 7302250) (hag : ∀ a0 : Int32, Agree Inv (N_T_days a0) (M_days a0)) (hk : k < 600) (hInv : Inv k τ σ) (next : ∀ (A1 : Nat → Nat → Nat) (τ1 : CS) (σ1 : RS), A1 5 99 = A 5 99 → Inv (k + 1) τ1 σ1 → G (ce + 3) (sl + 103) (wC g A1 τ1 (wR g r σ1 [])) (lL b A1 r iv) 1384 []) : G ce sl (wC g A τ (wR g r σ [])) (lL b A r iv) 590 [] := by
  have hG := hL.toG
  obtain ⟨v, τ1, σ1, q1, q2, hI⟩ := hag (xs (ix (iv + 1))) k τ σ hk hInv
  refine g_aload_n hG dL_law_590 rfl ?_
  refine g_aload_n hG dL_law_591 rfl ?_
  refine g_iload_n hG dL_law_592 rfl ?_
  refine g_iconstv hG dL_law_593 ki_1 ?_
  refine g_iadd hG dL_law_594 ?_
  refine l_sld hL dL_law_595 (hin 1 (by decide) (by decide)) ?_
  refine g_cV hG dL_law_596 (c_N_T_days q1) b_X11_days v_L_60 rfl (eT g A _ _) rfl ⟨Nat.le_of_ble_eq_true rfl, Nat.le_of_ble_eq_true rfl⟩ ⟨rfl, rfl⟩ ⟨by show ce ≤ 600000; omega, by show sl ≤ 7302250; omega⟩ _ rfl (Nat.le_of_ble_eq_true rfl) ?_
  refine g_perm hG (wperm g A τ1 r σ) ?_
  refine g_aload_n hG dL_law_599 rfl ?_
  refine g_aload_n hG dL_law_600 rfl ?_
  refine g_iload_n hG dL_law_601 rfl ?_
  refine g_iconstv hG dL_law_602 ki_1 ?_
  refine g_iadd hG dL_law_603 ?_
  refine l_sld hL dL_law_604 (hin 1 (by decide) (by decide)) ?_
  refine g_cV hG dL_law_605 (c_M_days q2) b_X12_days v_L_63 rfl (k := 0) rfl rfl ⟨Nat.le_of_ble_eq_true rfl, Nat.le_of_ble_eq_true rfl⟩ ⟨rfl, rfl⟩ ⟨by show ce ≤ 600000; omega, by show sl ≤ 7302250; omega⟩ _ rfl (Nat.le_of_ble_eq_true rfl) ?_
  refine g_perm hG (wperm g A τ1 r σ1).symm ?_
  refine g_icmp_eq (tgt := 1384) hG dL_law_608 rfl (fun _ => ?_) (fun q => absurd rfl q)
  refine g_widen hG (k := ce + 3) (n := sl + 103) (by omega) (by omega) ?_
  exact next A τ1 σ1 rfl hI
set_option maxRecDepth 100000 in
set_option maxHeartbeats 4000000 in
theorem lc_11 {g : GP} {l : Launch} {b Ln : Nat} {xs : Nat → Int32} {nm : String} {G : GT} {ce sl : Nat} {A : Nat → Nat → Nat} {r : Nat → Nat} {τ : CS} {σ : RS} {iv : Int32} {k : Nat} {Inv : Nat → CS → RS → Prop} (hL : IsL g l b Ln xs nm G) (hin : ∀ j : Int32, 0 < j → j < 6 → inb (iv + j) Ln = true) (hce : ce + 3 ≤ 600000) (hsl : sl + 103 ≤ 7302250) (hag : ∀ a0 : Int32, Agree Inv (N_T_loose a0) (M_loose a0)) (hk : k < 600) (hInv : Inv k τ σ) (next : ∀ (A1 : Nat → Nat → Nat) (τ1 : CS) (σ1 : RS), A1 5 99 = A 5 99 → Inv (k + 1) τ1 σ1 → G (ce + 3) (sl + 103) (wC g A1 τ1 (wR g r σ1 [])) (lL b A1 r iv) 1384 []) : G ce sl (wC g A τ (wR g r σ [])) (lL b A r iv) 613 [] := by
  have hG := hL.toG
  obtain ⟨v, τ1, σ1, q1, q2, hI⟩ := hag (xs (ix (iv + 1))) k τ σ hk hInv
  refine g_aload_n hG dL_law_613 rfl ?_
  refine g_aload_n hG dL_law_614 rfl ?_
  refine g_iload_n hG dL_law_615 rfl ?_
  refine g_iconstv hG dL_law_616 ki_1 ?_
  refine g_iadd hG dL_law_617 ?_
  refine l_sld hL dL_law_618 (hin 1 (by decide) (by decide)) ?_
  refine g_cV hG dL_law_619 (c_N_T_loose q1) b_X11_loose v_L_64 rfl (eT g A _ _) rfl ⟨Nat.le_of_ble_eq_true rfl, Nat.le_of_ble_eq_true rfl⟩ ⟨rfl, rfl⟩ ⟨by show ce ≤ 600000; omega, by show sl ≤ 7302250; omega⟩ _ rfl (Nat.le_of_ble_eq_true rfl) ?_
  refine g_perm hG (wperm g A τ1 r σ) ?_
  refine g_aload_n hG dL_law_622 rfl ?_
  refine g_aload_n hG dL_law_623 rfl ?_
  refine g_iload_n hG dL_law_624 rfl ?_
  refine g_iconstv hG dL_law_625 ki_1 ?_
  refine g_iadd hG dL_law_626 ?_
  refine l_sld hL dL_law_627 (hin 1 (by decide) (by decide)) ?_
  refine g_cV hG dL_law_628 (c_M_loose q2) b_X12_loose v_L_67 rfl (k := 0) rfl rfl ⟨Nat.le_of_ble_eq_true rfl, Nat.le_of_ble_eq_true rfl⟩ ⟨rfl, rfl⟩ ⟨by show ce ≤ 600000; omega, by show sl ≤ 7302250; omega⟩ _ rfl (Nat.le_of_ble_eq_true rfl) ?_
  refine g_perm hG (wperm g A τ1 r σ1).symm ?_
  refine g_icmp_eq (tgt := 1384) hG dL_law_631 rfl (fun _ => ?_) (fun q => absurd rfl q)
  refine g_widen hG (k := ce + 3) (n := sl + 103) (by omega) (by omega) ?_
  exact next A τ1 σ1 rfl hI
set_option maxRecDepth 100000 in
set_option maxHeartbeats 4000000 in
theorem lc_12 {g : GP} {l : Launch} {b Ln : Nat} {xs : Nat → Int32} {nm : String} {G : GT} {ce sl : Nat} {A : Nat → Nat → Nat} {r : Nat → Nat} {τ : CS} {σ : RS} {iv : Int32} {k : Nat} {Inv : Nat → CS → RS → Prop} (hL : IsL g l b Ln xs nm G) (hin : ∀ j : Int32, 0 < j → j < 6 → inb (iv + j) Ln = true) (hce : ce + 3 ≤ 600000) (hsl : sl + 103 ≤ 7302250) (hag : ∀ a0 : Int32, ∀ a1 : Int32, Agree Inv (N_T_then a0 a1) (M_then a0 a1)) (hk : k < 600) (hInv : Inv k τ σ) (next : ∀ (A1 : Nat → Nat → Nat) (τ1 : CS) (σ1 : RS), A1 5 99 = A 5 99 → Inv (k + 1) τ1 σ1 → G (ce + 3) (sl + 103) (wC g A1 τ1 (wR g r σ1 [])) (lL b A1 r iv) 1384 []) : G ce sl (wC g A τ (wR g r σ [])) (lL b A r iv) 636 [] := by
  have hG := hL.toG
  obtain ⟨v, τ1, σ1, q1, q2, hI⟩ := hag (xs (ix (iv + 1))) (xs (ix (iv + 2))) k τ σ hk hInv
  refine g_aload_n hG dL_law_636 rfl ?_
  refine g_aload_n hG dL_law_637 rfl ?_
  refine g_iload_n hG dL_law_638 rfl ?_
  refine g_iconstv hG dL_law_639 ki_1 ?_
  refine g_iadd hG dL_law_640 ?_
  refine l_sld hL dL_law_641 (hin 1 (by decide) (by decide)) ?_
  refine g_aload_n hG dL_law_642 rfl ?_
  refine g_iload_n hG dL_law_643 rfl ?_
  refine g_iconstv hG dL_law_644 ki_2 ?_
  refine g_iadd hG dL_law_645 ?_
  refine l_sld hL dL_law_646 (hin 2 (by decide) (by decide)) ?_
  refine g_cV hG dL_law_647 (c_N_T_then q1) b_X11_then v_L_68 rfl (eT g A _ _) rfl ⟨Nat.le_of_ble_eq_true rfl, Nat.le_of_ble_eq_true rfl⟩ ⟨rfl, rfl⟩ ⟨by show ce ≤ 600000; omega, by show sl ≤ 7302250; omega⟩ _ rfl (Nat.le_of_ble_eq_true rfl) ?_
  refine g_perm hG (wperm g A τ1 r σ) ?_
  refine g_aload_n hG dL_law_650 rfl ?_
  refine g_aload_n hG dL_law_651 rfl ?_
  refine g_iload_n hG dL_law_652 rfl ?_
  refine g_iconstv hG dL_law_653 ki_1 ?_
  refine g_iadd hG dL_law_654 ?_
  refine l_sld hL dL_law_655 (hin 1 (by decide) (by decide)) ?_
  refine g_aload_n hG dL_law_656 rfl ?_
  refine g_iload_n hG dL_law_657 rfl ?_
  refine g_iconstv hG dL_law_658 ki_2 ?_
  refine g_iadd hG dL_law_659 ?_
  refine l_sld hL dL_law_660 (hin 2 (by decide) (by decide)) ?_
  refine g_cV hG dL_law_661 (c_M_then q2) b_X12_then v_L_71 rfl (k := 0) rfl rfl ⟨Nat.le_of_ble_eq_true rfl, Nat.le_of_ble_eq_true rfl⟩ ⟨rfl, rfl⟩ ⟨by show ce ≤ 600000; omega, by show sl ≤ 7302250; omega⟩ _ rfl (Nat.le_of_ble_eq_true rfl) ?_
  refine g_perm hG (wperm g A τ1 r σ1).symm ?_
  refine g_icmp_eq (tgt := 1384) hG dL_law_664 rfl (fun _ => ?_) (fun q => absurd rfl q)
  refine g_widen hG (k := ce + 3) (n := sl + 103) (by omega) (by omega) ?_
  exact next A τ1 σ1 rfl hI
set_option maxRecDepth 100000 in
set_option maxHeartbeats 4000000 in
theorem lc_13 {g : GP} {l : Launch} {b Ln : Nat} {xs : Nat → Int32} {nm : String} {G : GT} {ce sl : Nat} {A : Nat → Nat → Nat} {r : Nat → Nat} {τ : CS} {σ : RS} {iv : Int32} {k : Nat} {Inv : Nat → CS → RS → Prop} (hL : IsL g l b Ln xs nm G) (hin : ∀ j : Int32, 0 < j → j < 6 → inb (iv + j) Ln = true) (hce : ce + 3 ≤ 600000) (hsl : sl + 103 ≤ 7302250) (hag : ∀ a0 : Int32, ∀ a1 : Int32, Agree Inv (N_T_worst a0 a1) (M_worst a0 a1)) (hk : k < 600) (hInv : Inv k τ σ) (next : ∀ (A1 : Nat → Nat → Nat) (τ1 : CS) (σ1 : RS), A1 5 99 = A 5 99 → Inv (k + 1) τ1 σ1 → G (ce + 3) (sl + 103) (wC g A1 τ1 (wR g r σ1 [])) (lL b A1 r iv) 1384 []) : G ce sl (wC g A τ (wR g r σ [])) (lL b A r iv) 669 [] := by
  have hG := hL.toG
  obtain ⟨v, τ1, σ1, q1, q2, hI⟩ := hag (xs (ix (iv + 1))) (xs (ix (iv + 2))) k τ σ hk hInv
  refine g_aload_n hG dL_law_669 rfl ?_
  refine g_aload_n hG dL_law_670 rfl ?_
  refine g_iload_n hG dL_law_671 rfl ?_
  refine g_iconstv hG dL_law_672 ki_1 ?_
  refine g_iadd hG dL_law_673 ?_
  refine l_sld hL dL_law_674 (hin 1 (by decide) (by decide)) ?_
  refine g_aload_n hG dL_law_675 rfl ?_
  refine g_iload_n hG dL_law_676 rfl ?_
  refine g_iconstv hG dL_law_677 ki_2 ?_
  refine g_iadd hG dL_law_678 ?_
  refine l_sld hL dL_law_679 (hin 2 (by decide) (by decide)) ?_
  refine g_cV hG dL_law_680 (c_N_T_worst q1) b_X11_worst v_L_72 rfl (eT g A _ _) rfl ⟨Nat.le_of_ble_eq_true rfl, Nat.le_of_ble_eq_true rfl⟩ ⟨rfl, rfl⟩ ⟨by show ce ≤ 600000; omega, by show sl ≤ 7302250; omega⟩ _ rfl (Nat.le_of_ble_eq_true rfl) ?_
  refine g_perm hG (wperm g A τ1 r σ) ?_
  refine g_aload_n hG dL_law_683 rfl ?_
  refine g_aload_n hG dL_law_684 rfl ?_
  refine g_iload_n hG dL_law_685 rfl ?_
  refine g_iconstv hG dL_law_686 ki_1 ?_
  refine g_iadd hG dL_law_687 ?_
  refine l_sld hL dL_law_688 (hin 1 (by decide) (by decide)) ?_
  refine g_aload_n hG dL_law_689 rfl ?_
  refine g_iload_n hG dL_law_690 rfl ?_
  refine g_iconstv hG dL_law_691 ki_2 ?_
  refine g_iadd hG dL_law_692 ?_
  refine l_sld hL dL_law_693 (hin 2 (by decide) (by decide)) ?_
  refine g_cV hG dL_law_694 (c_M_worst q2) b_X12_worst v_L_75 rfl (k := 0) rfl rfl ⟨Nat.le_of_ble_eq_true rfl, Nat.le_of_ble_eq_true rfl⟩ ⟨rfl, rfl⟩ ⟨by show ce ≤ 600000; omega, by show sl ≤ 7302250; omega⟩ _ rfl (Nat.le_of_ble_eq_true rfl) ?_
  refine g_perm hG (wperm g A τ1 r σ1).symm ?_
  refine g_icmp_eq (tgt := 1384) hG dL_law_697 rfl (fun _ => ?_) (fun q => absurd rfl q)
  refine g_widen hG (k := ce + 3) (n := sl + 103) (by omega) (by omega) ?_
  exact next A τ1 σ1 rfl hI
set_option maxRecDepth 100000 in
set_option maxHeartbeats 4000000 in
theorem lc_14 {g : GP} {l : Launch} {b Ln : Nat} {xs : Nat → Int32} {nm : String} {G : GT} {ce sl : Nat} {A : Nat → Nat → Nat} {r : Nat → Nat} {τ : CS} {σ : RS} {iv : Int32} {k : Nat} {Inv : Nat → CS → RS → Prop} (hL : IsL g l b Ln xs nm G) (hin : ∀ j : Int32, 0 < j → j < 6 → inb (iv + j) Ln = true) (hce : ce + 3 ≤ 600000) (hsl : sl + 103 ≤ 7302250) (hag : Agree Inv (N_T_stay ) (M_stay )) (hk : k < 600) (hInv : Inv k τ σ) (next : ∀ (A1 : Nat → Nat → Nat) (τ1 : CS) (σ1 : RS), A1 5 99 = A 5 99 → Inv (k + 1) τ1 σ1 → G (ce + 3) (sl + 103) (wC g A1 τ1 (wR g r σ1 [])) (lL b A1 r iv) 1384 []) : G ce sl (wC g A τ (wR g r σ [])) (lL b A r iv) 702 [] := by
  have hG := hL.toG
  obtain ⟨v, τ1, σ1, q1, q2, hI⟩ := hag k τ σ hk hInv
  refine g_aload_n hG dL_law_702 rfl ?_
  refine g_cV hG dL_law_703 (c_N_T_stay q1) b_X11_stay v_L_76 rfl (eT g A _ _) rfl ⟨Nat.le_of_ble_eq_true rfl, Nat.le_of_ble_eq_true rfl⟩ ⟨rfl, rfl⟩ ⟨by show ce ≤ 600000; omega, by show sl ≤ 7302250; omega⟩ _ rfl (Nat.le_of_ble_eq_true rfl) ?_
  refine g_perm hG (wperm g A τ1 r σ) ?_
  refine g_aload_n hG dL_law_706 rfl ?_
  refine g_cV hG dL_law_707 (c_M_stay q2) b_X12_stay v_L_80 rfl (k := 0) rfl rfl ⟨Nat.le_of_ble_eq_true rfl, Nat.le_of_ble_eq_true rfl⟩ ⟨rfl, rfl⟩ ⟨by show ce ≤ 600000; omega, by show sl ≤ 7302250; omega⟩ _ rfl (Nat.le_of_ble_eq_true rfl) ?_
  refine g_perm hG (wperm g A τ1 r σ1).symm ?_
  refine g_icmp_eq (tgt := 1384) hG dL_law_710 rfl (fun _ => ?_) (fun q => absurd rfl q)
  refine g_widen hG (k := ce + 3) (n := sl + 103) (by omega) (by omega) ?_
  exact next A τ1 σ1 rfl hI
set_option maxRecDepth 100000 in
set_option maxHeartbeats 4000000 in
theorem lc_15 {g : GP} {l : Launch} {b Ln : Nat} {xs : Nat → Int32} {nm : String} {G : GT} {ce sl : Nat} {A : Nat → Nat → Nat} {r : Nat → Nat} {τ : CS} {σ : RS} {iv : Int32} {k : Nat} {Inv : Nat → CS → RS → Prop} (hL : IsL g l b Ln xs nm G) (hin : ∀ j : Int32, 0 < j → j < 6 → inb (iv + j) Ln = true) (hce : ce + 3 ≤ 600000) (hsl : sl + 103 ≤ 7302250) (hag : ∀ a0 : Int32, Agree Inv (N_T_side a0) (M_side a0)) (hk : k < 600) (hInv : Inv k τ σ) (next : ∀ (A1 : Nat → Nat → Nat) (τ1 : CS) (σ1 : RS), A1 5 99 = A 5 99 → Inv (k + 1) τ1 σ1 → G (ce + 3) (sl + 103) (wC g A1 τ1 (wR g r σ1 [])) (lL b A1 r iv) 1384 []) : G ce sl (wC g A τ (wR g r σ [])) (lL b A r iv) 715 [] := by
  have hG := hL.toG
  obtain ⟨v, τ1, σ1, q1, q2, hI⟩ := hag (xs (ix (iv + 1))) k τ σ hk hInv
  refine g_aload_n hG dL_law_715 rfl ?_
  refine g_aload_n hG dL_law_716 rfl ?_
  refine g_iload_n hG dL_law_717 rfl ?_
  refine g_iconstv hG dL_law_718 ki_1 ?_
  refine g_iadd hG dL_law_719 ?_
  refine l_sld hL dL_law_720 (hin 1 (by decide) (by decide)) ?_
  refine g_cV hG dL_law_721 (c_N_T_side q1) b_X11_side v_L_81 rfl (eT g A _ _) rfl ⟨Nat.le_of_ble_eq_true rfl, Nat.le_of_ble_eq_true rfl⟩ ⟨rfl, rfl⟩ ⟨by show ce ≤ 600000; omega, by show sl ≤ 7302250; omega⟩ _ rfl (Nat.le_of_ble_eq_true rfl) ?_
  refine g_perm hG (wperm g A τ1 r σ) ?_
  refine g_aload_n hG dL_law_724 rfl ?_
  refine g_aload_n hG dL_law_725 rfl ?_
  refine g_iload_n hG dL_law_726 rfl ?_
  refine g_iconstv hG dL_law_727 ki_1 ?_
  refine g_iadd hG dL_law_728 ?_
  refine l_sld hL dL_law_729 (hin 1 (by decide) (by decide)) ?_
  refine g_cV hG dL_law_730 (c_M_side q2) b_X12_side v_L_84 rfl (k := 0) rfl rfl ⟨Nat.le_of_ble_eq_true rfl, Nat.le_of_ble_eq_true rfl⟩ ⟨rfl, rfl⟩ ⟨by show ce ≤ 600000; omega, by show sl ≤ 7302250; omega⟩ _ rfl (Nat.le_of_ble_eq_true rfl) ?_
  refine g_perm hG (wperm g A τ1 r σ1).symm ?_
  refine g_icmp_eq (tgt := 1384) hG dL_law_733 rfl (fun _ => ?_) (fun q => absurd rfl q)
  refine g_widen hG (k := ce + 3) (n := sl + 103) (by omega) (by omega) ?_
  exact next A τ1 σ1 rfl hI
set_option maxRecDepth 100000 in
set_option maxHeartbeats 4000000 in
theorem lc_16 {g : GP} {l : Launch} {b Ln : Nat} {xs : Nat → Int32} {nm : String} {G : GT} {ce sl : Nat} {A : Nat → Nat → Nat} {r : Nat → Nat} {τ : CS} {σ : RS} {iv : Int32} {k : Nat} {Inv : Nat → CS → RS → Prop} (hL : IsL g l b Ln xs nm G) (hin : ∀ j : Int32, 0 < j → j < 6 → inb (iv + j) Ln = true) (hce : ce + 3 ≤ 600000) (hsl : sl + 103 ≤ 7302250) (hag : ∀ a0 : Int32, Agree Inv (N_T_seldom a0) (M_seldom a0)) (hk : k < 600) (hInv : Inv k τ σ) (next : ∀ (A1 : Nat → Nat → Nat) (τ1 : CS) (σ1 : RS), A1 5 99 = A 5 99 → Inv (k + 1) τ1 σ1 → G (ce + 3) (sl + 103) (wC g A1 τ1 (wR g r σ1 [])) (lL b A1 r iv) 1384 []) : G ce sl (wC g A τ (wR g r σ [])) (lL b A r iv) 738 [] := by
  have hG := hL.toG
  obtain ⟨v, τ1, σ1, q1, q2, hI⟩ := hag (xs (ix (iv + 1))) k τ σ hk hInv
  refine g_aload_n hG dL_law_738 rfl ?_
  refine g_aload_n hG dL_law_739 rfl ?_
  refine g_iload_n hG dL_law_740 rfl ?_
  refine g_iconstv hG dL_law_741 ki_1 ?_
  refine g_iadd hG dL_law_742 ?_
  refine l_sld hL dL_law_743 (hin 1 (by decide) (by decide)) ?_
  refine g_cV hG dL_law_744 (c_N_T_seldom q1) b_X11_seldom v_L_85 rfl (eT g A _ _) rfl ⟨Nat.le_of_ble_eq_true rfl, Nat.le_of_ble_eq_true rfl⟩ ⟨rfl, rfl⟩ ⟨by show ce ≤ 600000; omega, by show sl ≤ 7302250; omega⟩ _ rfl (Nat.le_of_ble_eq_true rfl) ?_
  refine g_perm hG (wperm g A τ1 r σ) ?_
  refine g_aload_n hG dL_law_747 rfl ?_
  refine g_aload_n hG dL_law_748 rfl ?_
  refine g_iload_n hG dL_law_749 rfl ?_
  refine g_iconstv hG dL_law_750 ki_1 ?_
  refine g_iadd hG dL_law_751 ?_
  refine l_sld hL dL_law_752 (hin 1 (by decide) (by decide)) ?_
  refine g_cV hG dL_law_753 (c_M_seldom q2) b_X12_seldom v_L_88 rfl (k := 0) rfl rfl ⟨Nat.le_of_ble_eq_true rfl, Nat.le_of_ble_eq_true rfl⟩ ⟨rfl, rfl⟩ ⟨by show ce ≤ 600000; omega, by show sl ≤ 7302250; omega⟩ _ rfl (Nat.le_of_ble_eq_true rfl) ?_
  refine g_perm hG (wperm g A τ1 r σ1).symm ?_
  refine g_icmp_eq (tgt := 1384) hG dL_law_756 rfl (fun _ => ?_) (fun q => absurd rfl q)
  refine g_widen hG (k := ce + 3) (n := sl + 103) (by omega) (by omega) ?_
  exact next A τ1 σ1 rfl hI
set_option maxRecDepth 100000 in
set_option maxHeartbeats 4000000 in
theorem lc_17 {g : GP} {l : Launch} {b Ln : Nat} {xs : Nat → Int32} {nm : String} {G : GT} {ce sl : Nat} {A : Nat → Nat → Nat} {r : Nat → Nat} {τ : CS} {σ : RS} {iv : Int32} {k : Nat} {Inv : Nat → CS → RS → Prop} (hL : IsL g l b Ln xs nm G) (hin : ∀ j : Int32, 0 < j → j < 6 → inb (iv + j) Ln = true) (hce : ce + 3 ≤ 600000) (hsl : sl + 103 ≤ 7302250) (hag : ∀ a0 : Int32, Agree Inv (N_T_leastFine a0) (M_leastFine a0)) (hk : k < 600) (hInv : Inv k τ σ) (next : ∀ (A1 : Nat → Nat → Nat) (τ1 : CS) (σ1 : RS), A1 5 99 = A 5 99 → Inv (k + 1) τ1 σ1 → G (ce + 3) (sl + 103) (wC g A1 τ1 (wR g r σ1 [])) (lL b A1 r iv) 1384 []) : G ce sl (wC g A τ (wR g r σ [])) (lL b A r iv) 761 [] := by
  have hG := hL.toG
  obtain ⟨v, τ1, σ1, q1, q2, hI⟩ := hag (xs (ix (iv + 1))) k τ σ hk hInv
  refine g_aload_n hG dL_law_761 rfl ?_
  refine g_aload_n hG dL_law_762 rfl ?_
  refine g_iload_n hG dL_law_763 rfl ?_
  refine g_iconstv hG dL_law_764 ki_1 ?_
  refine g_iadd hG dL_law_765 ?_
  refine l_sld hL dL_law_766 (hin 1 (by decide) (by decide)) ?_
  refine g_cV hG dL_law_767 (c_N_T_leastFine q1) b_X11_leastFine v_L_89 rfl (eT g A _ _) rfl ⟨Nat.le_of_ble_eq_true rfl, Nat.le_of_ble_eq_true rfl⟩ ⟨rfl, rfl⟩ ⟨by show ce ≤ 600000; omega, by show sl ≤ 7302250; omega⟩ _ rfl (Nat.le_of_ble_eq_true rfl) ?_
  refine g_perm hG (wperm g A τ1 r σ) ?_
  refine g_aload_n hG dL_law_770 rfl ?_
  refine g_aload_n hG dL_law_771 rfl ?_
  refine g_iload_n hG dL_law_772 rfl ?_
  refine g_iconstv hG dL_law_773 ki_1 ?_
  refine g_iadd hG dL_law_774 ?_
  refine l_sld hL dL_law_775 (hin 1 (by decide) (by decide)) ?_
  refine g_cV hG dL_law_776 (c_M_leastFine q2) b_X12_leastFine v_L_92 rfl (k := 0) rfl rfl ⟨Nat.le_of_ble_eq_true rfl, Nat.le_of_ble_eq_true rfl⟩ ⟨rfl, rfl⟩ ⟨by show ce ≤ 600000; omega, by show sl ≤ 7302250; omega⟩ _ rfl (Nat.le_of_ble_eq_true rfl) ?_
  refine g_perm hG (wperm g A τ1 r σ1).symm ?_
  refine g_icmp_eq (tgt := 1384) hG dL_law_779 rfl (fun _ => ?_) (fun q => absurd rfl q)
  refine g_widen hG (k := ce + 3) (n := sl + 103) (by omega) (by omega) ?_
  exact next A τ1 σ1 rfl hI
set_option maxRecDepth 100000 in
set_option maxHeartbeats 4000000 in
theorem lc_18 {g : GP} {l : Launch} {b Ln : Nat} {xs : Nat → Int32} {nm : String} {G : GT} {ce sl : Nat} {A : Nat → Nat → Nat} {r : Nat → Nat} {τ : CS} {σ : RS} {iv : Int32} {k : Nat} {Inv : Nat → CS → RS → Prop} (hL : IsL g l b Ln xs nm G) (hin : ∀ j : Int32, 0 < j → j < 6 → inb (iv + j) Ln = true) (hce : ce + 3 ≤ 600000) (hsl : sl + 103 ≤ 7302250) (hag : ∀ a0 : Int32, ∀ a1 : Int32, ∀ a2 : Int32, Agree Inv (N_T_tow a0 a1 a2) (M_tow a0 a1 a2)) (hk : k < 600) (hInv : Inv k τ σ) (next : ∀ (A1 : Nat → Nat → Nat) (τ1 : CS) (σ1 : RS), A1 5 99 = A 5 99 → Inv (k + 1) τ1 σ1 → G (ce + 3) (sl + 103) (wC g A1 τ1 (wR g r σ1 [])) (lL b A1 r iv) 1384 []) : G ce sl (wC g A τ (wR g r σ [])) (lL b A r iv) 784 [] := by
  have hG := hL.toG
  obtain ⟨v, τ1, σ1, q1, q2, hI⟩ := hag (xs (ix (iv + 1))) (xs (ix (iv + 2))) (xs (ix (iv + 3))) k τ σ hk hInv
  refine g_aload_n hG dL_law_784 rfl ?_
  refine g_aload_n hG dL_law_785 rfl ?_
  refine g_iload_n hG dL_law_786 rfl ?_
  refine g_iconstv hG dL_law_787 ki_1 ?_
  refine g_iadd hG dL_law_788 ?_
  refine l_sld hL dL_law_789 (hin 1 (by decide) (by decide)) ?_
  refine g_aload_n hG dL_law_790 rfl ?_
  refine g_iload_n hG dL_law_791 rfl ?_
  refine g_iconstv hG dL_law_792 ki_2 ?_
  refine g_iadd hG dL_law_793 ?_
  refine l_sld hL dL_law_794 (hin 2 (by decide) (by decide)) ?_
  refine g_aload_n hG dL_law_795 rfl ?_
  refine g_iload_n hG dL_law_796 rfl ?_
  refine g_iconstv hG dL_law_797 ki_3 ?_
  refine g_iadd hG dL_law_798 ?_
  refine l_sld hL dL_law_799 (hin 3 (by decide) (by decide)) ?_
  refine g_cV hG dL_law_800 (c_N_T_tow q1) b_X11_tow v_L_93 rfl (eT g A _ _) rfl ⟨Nat.le_of_ble_eq_true rfl, Nat.le_of_ble_eq_true rfl⟩ ⟨rfl, rfl⟩ ⟨by show ce ≤ 600000; omega, by show sl ≤ 7302250; omega⟩ _ rfl (Nat.le_of_ble_eq_true rfl) ?_
  refine g_perm hG (wperm g A τ1 r σ) ?_
  refine g_aload_n hG dL_law_803 rfl ?_
  refine g_aload_n hG dL_law_804 rfl ?_
  refine g_iload_n hG dL_law_805 rfl ?_
  refine g_iconstv hG dL_law_806 ki_1 ?_
  refine g_iadd hG dL_law_807 ?_
  refine l_sld hL dL_law_808 (hin 1 (by decide) (by decide)) ?_
  refine g_aload_n hG dL_law_809 rfl ?_
  refine g_iload_n hG dL_law_810 rfl ?_
  refine g_iconstv hG dL_law_811 ki_2 ?_
  refine g_iadd hG dL_law_812 ?_
  refine l_sld hL dL_law_813 (hin 2 (by decide) (by decide)) ?_
  refine g_aload_n hG dL_law_814 rfl ?_
  refine g_iload_n hG dL_law_815 rfl ?_
  refine g_iconstv hG dL_law_816 ki_3 ?_
  refine g_iadd hG dL_law_817 ?_
  refine l_sld hL dL_law_818 (hin 3 (by decide) (by decide)) ?_
  refine g_cV hG dL_law_819 (c_M_tow q2) b_X12_tow v_L_96 rfl (k := 0) rfl rfl ⟨Nat.le_of_ble_eq_true rfl, Nat.le_of_ble_eq_true rfl⟩ ⟨rfl, rfl⟩ ⟨by show ce ≤ 600000; omega, by show sl ≤ 7302250; omega⟩ _ rfl (Nat.le_of_ble_eq_true rfl) ?_
  refine g_perm hG (wperm g A τ1 r σ1).symm ?_
  refine g_icmp_eq (tgt := 1384) hG dL_law_822 rfl (fun _ => ?_) (fun q => absurd rfl q)
  refine g_widen hG (k := ce + 3) (n := sl + 103) (by omega) (by omega) ?_
  exact next A τ1 σ1 rfl hI
set_option maxRecDepth 100000 in
set_option maxHeartbeats 4000000 in
theorem lc_19 {g : GP} {l : Launch} {b Ln : Nat} {xs : Nat → Int32} {nm : String} {G : GT} {ce sl : Nat} {A : Nat → Nat → Nat} {r : Nat → Nat} {τ : CS} {σ : RS} {iv : Int32} {k : Nat} {Inv : Nat → CS → RS → Prop} (hL : IsL g l b Ln xs nm G) (hin : ∀ j : Int32, 0 < j → j < 6 → inb (iv + j) Ln = true) (hce : ce + 3 ≤ 600000) (hsl : sl + 103 ≤ 7302250) (hag : ∀ a0 : Int32, ∀ a1 : Int32, Agree Inv (N_T_broom a0 a1) (M_broom a0 a1)) (hk : k < 600) (hInv : Inv k τ σ) (next : ∀ (A1 : Nat → Nat → Nat) (τ1 : CS) (σ1 : RS), A1 5 99 = A 5 99 → Inv (k + 1) τ1 σ1 → G (ce + 3) (sl + 103) (wC g A1 τ1 (wR g r σ1 [])) (lL b A1 r iv) 1384 []) : G ce sl (wC g A τ (wR g r σ [])) (lL b A r iv) 827 [] := by
  have hG := hL.toG
  obtain ⟨v, τ1, σ1, q1, q2, hI⟩ := hag (xs (ix (iv + 1))) (xs (ix (iv + 2))) k τ σ hk hInv
  refine g_aload_n hG dL_law_827 rfl ?_
  refine g_aload_n hG dL_law_828 rfl ?_
  refine g_iload_n hG dL_law_829 rfl ?_
  refine g_iconstv hG dL_law_830 ki_1 ?_
  refine g_iadd hG dL_law_831 ?_
  refine l_sld hL dL_law_832 (hin 1 (by decide) (by decide)) ?_
  refine g_aload_n hG dL_law_833 rfl ?_
  refine g_iload_n hG dL_law_834 rfl ?_
  refine g_iconstv hG dL_law_835 ki_2 ?_
  refine g_iadd hG dL_law_836 ?_
  refine l_sld hL dL_law_837 (hin 2 (by decide) (by decide)) ?_
  refine g_cV hG dL_law_838 (c_N_T_broom q1) b_X11_broom v_L_97 rfl (eT g A _ _) rfl ⟨Nat.le_of_ble_eq_true rfl, Nat.le_of_ble_eq_true rfl⟩ ⟨rfl, rfl⟩ ⟨by show ce ≤ 600000; omega, by show sl ≤ 7302250; omega⟩ _ rfl (Nat.le_of_ble_eq_true rfl) ?_
  refine g_perm hG (wperm g A τ1 r σ) ?_
  refine g_aload_n hG dL_law_841 rfl ?_
  refine g_aload_n hG dL_law_842 rfl ?_
  refine g_iload_n hG dL_law_843 rfl ?_
  refine g_iconstv hG dL_law_844 ki_1 ?_
  refine g_iadd hG dL_law_845 ?_
  refine l_sld hL dL_law_846 (hin 1 (by decide) (by decide)) ?_
  refine g_aload_n hG dL_law_847 rfl ?_
  refine g_iload_n hG dL_law_848 rfl ?_
  refine g_iconstv hG dL_law_849 ki_2 ?_
  refine g_iadd hG dL_law_850 ?_
  refine l_sld hL dL_law_851 (hin 2 (by decide) (by decide)) ?_
  refine g_cV hG dL_law_852 (c_M_broom q2) b_X12_broom v_L_100 rfl (k := 0) rfl rfl ⟨Nat.le_of_ble_eq_true rfl, Nat.le_of_ble_eq_true rfl⟩ ⟨rfl, rfl⟩ ⟨by show ce ≤ 600000; omega, by show sl ≤ 7302250; omega⟩ _ rfl (Nat.le_of_ble_eq_true rfl) ?_
  refine g_perm hG (wperm g A τ1 r σ1).symm ?_
  refine g_icmp_eq (tgt := 1384) hG dL_law_855 rfl (fun _ => ?_) (fun q => absurd rfl q)
  refine g_widen hG (k := ce + 3) (n := sl + 103) (by omega) (by omega) ?_
  exact next A τ1 σ1 rfl hI
set_option maxRecDepth 100000 in
set_option maxHeartbeats 4000000 in
theorem lc_20 {g : GP} {l : Launch} {b Ln : Nat} {xs : Nat → Int32} {nm : String} {G : GT} {ce sl : Nat} {A : Nat → Nat → Nat} {r : Nat → Nat} {τ : CS} {σ : RS} {iv : Int32} {k : Nat} {Inv : Nat → CS → RS → Prop} (hL : IsL g l b Ln xs nm G) (hin : ∀ j : Int32, 0 < j → j < 6 → inb (iv + j) Ln = true) (hce : ce + 3 ≤ 600000) (hsl : sl + 103 ≤ 7302250) (hag : ∀ a0 : Int32, ∀ a1 : Int32, Agree Inv (N_T_fits a0 a1) (M_fits a0 a1)) (hk : k < 600) (hInv : Inv k τ σ) (next : ∀ (A1 : Nat → Nat → Nat) (τ1 : CS) (σ1 : RS), A1 5 99 = A 5 99 → Inv (k + 1) τ1 σ1 → G (ce + 3) (sl + 103) (wC g A1 τ1 (wR g r σ1 [])) (lL b A1 r iv) 1384 []) : G ce sl (wC g A τ (wR g r σ [])) (lL b A r iv) 860 [] := by
  have hG := hL.toG
  obtain ⟨v, τ1, σ1, q1, q2, hI⟩ := hag (xs (ix (iv + 1))) (xs (ix (iv + 2))) k τ σ hk hInv
  refine g_aload_n hG dL_law_860 rfl ?_
  refine g_aload_n hG dL_law_861 rfl ?_
  refine g_iload_n hG dL_law_862 rfl ?_
  refine g_iconstv hG dL_law_863 ki_1 ?_
  refine g_iadd hG dL_law_864 ?_
  refine l_sld hL dL_law_865 (hin 1 (by decide) (by decide)) ?_
  refine g_aload_n hG dL_law_866 rfl ?_
  refine g_iload_n hG dL_law_867 rfl ?_
  refine g_iconstv hG dL_law_868 ki_2 ?_
  refine g_iadd hG dL_law_869 ?_
  refine l_sld hL dL_law_870 (hin 2 (by decide) (by decide)) ?_
  refine g_cV hG dL_law_871 (c_N_T_fits q1) b_X11_fits v_L_101 rfl (eT g A _ _) rfl ⟨Nat.le_of_ble_eq_true rfl, Nat.le_of_ble_eq_true rfl⟩ ⟨rfl, rfl⟩ ⟨by show ce ≤ 600000; omega, by show sl ≤ 7302250; omega⟩ _ rfl (Nat.le_of_ble_eq_true rfl) ?_
  refine g_perm hG (wperm g A τ1 r σ) ?_
  refine g_aload_n hG dL_law_874 rfl ?_
  refine g_aload_n hG dL_law_875 rfl ?_
  refine g_iload_n hG dL_law_876 rfl ?_
  refine g_iconstv hG dL_law_877 ki_1 ?_
  refine g_iadd hG dL_law_878 ?_
  refine l_sld hL dL_law_879 (hin 1 (by decide) (by decide)) ?_
  refine g_aload_n hG dL_law_880 rfl ?_
  refine g_iload_n hG dL_law_881 rfl ?_
  refine g_iconstv hG dL_law_882 ki_2 ?_
  refine g_iadd hG dL_law_883 ?_
  refine l_sld hL dL_law_884 (hin 2 (by decide) (by decide)) ?_
  refine g_cV hG dL_law_885 (c_M_fits q2) b_X12_fits v_L_104 rfl (k := 0) rfl rfl ⟨Nat.le_of_ble_eq_true rfl, Nat.le_of_ble_eq_true rfl⟩ ⟨rfl, rfl⟩ ⟨by show ce ≤ 600000; omega, by show sl ≤ 7302250; omega⟩ _ rfl (Nat.le_of_ble_eq_true rfl) ?_
  refine g_perm hG (wperm g A τ1 r σ1).symm ?_
  refine g_icmp_eq (tgt := 1384) hG dL_law_888 rfl (fun _ => ?_) (fun q => absurd rfl q)
  refine g_widen hG (k := ce + 3) (n := sl + 103) (by omega) (by omega) ?_
  exact next A τ1 σ1 rfl hI
set_option maxRecDepth 100000 in
set_option maxHeartbeats 4000000 in
theorem lc_21 {g : GP} {l : Launch} {b Ln : Nat} {xs : Nat → Int32} {nm : String} {G : GT} {ce sl : Nat} {A : Nat → Nat → Nat} {r : Nat → Nat} {τ : CS} {σ : RS} {iv : Int32} {k : Nat} {Inv : Nat → CS → RS → Prop} (hL : IsL g l b Ln xs nm G) (hin : ∀ j : Int32, 0 < j → j < 6 → inb (iv + j) Ln = true) (hce : ce + 3 ≤ 600000) (hsl : sl + 103 ≤ 7302250) (hag : ∀ a0 : Int32, Agree Inv (N_T_paid a0) (M_paid a0)) (hk : k < 600) (hInv : Inv k τ σ) (next : ∀ (A1 : Nat → Nat → Nat) (τ1 : CS) (σ1 : RS), A1 5 99 = A 5 99 → Inv (k + 1) τ1 σ1 → G (ce + 3) (sl + 103) (wC g A1 τ1 (wR g r σ1 [])) (lL b A1 r iv) 1384 []) : G ce sl (wC g A τ (wR g r σ [])) (lL b A r iv) 893 [] := by
  have hG := hL.toG
  obtain ⟨v, τ1, σ1, q1, q2, hI⟩ := hag (xs (ix (iv + 1))) k τ σ hk hInv
  refine g_aload_n hG dL_law_893 rfl ?_
  refine g_aload_n hG dL_law_894 rfl ?_
  refine g_iload_n hG dL_law_895 rfl ?_
  refine g_iconstv hG dL_law_896 ki_1 ?_
  refine g_iadd hG dL_law_897 ?_
  refine l_sld hL dL_law_898 (hin 1 (by decide) (by decide)) ?_
  refine g_cV hG dL_law_899 (c_N_T_paid q1) b_X11_paid v_L_105 rfl (eT g A _ _) rfl ⟨Nat.le_of_ble_eq_true rfl, Nat.le_of_ble_eq_true rfl⟩ ⟨rfl, rfl⟩ ⟨by show ce ≤ 600000; omega, by show sl ≤ 7302250; omega⟩ _ rfl (Nat.le_of_ble_eq_true rfl) ?_
  refine g_perm hG (wperm g A τ1 r σ) ?_
  refine g_aload_n hG dL_law_902 rfl ?_
  refine g_aload_n hG dL_law_903 rfl ?_
  refine g_iload_n hG dL_law_904 rfl ?_
  refine g_iconstv hG dL_law_905 ki_1 ?_
  refine g_iadd hG dL_law_906 ?_
  refine l_sld hL dL_law_907 (hin 1 (by decide) (by decide)) ?_
  refine g_cV hG dL_law_908 (c_M_paid q2) b_X12_paid v_L_108 rfl (k := 0) rfl rfl ⟨Nat.le_of_ble_eq_true rfl, Nat.le_of_ble_eq_true rfl⟩ ⟨rfl, rfl⟩ ⟨by show ce ≤ 600000; omega, by show sl ≤ 7302250; omega⟩ _ rfl (Nat.le_of_ble_eq_true rfl) ?_
  refine g_perm hG (wperm g A τ1 r σ1).symm ?_
  refine g_icmp_eq (tgt := 1384) hG dL_law_911 rfl (fun _ => ?_) (fun q => absurd rfl q)
  refine g_widen hG (k := ce + 3) (n := sl + 103) (by omega) (by omega) ?_
  exact next A τ1 σ1 rfl hI
set_option maxRecDepth 100000 in
set_option maxHeartbeats 4000000 in
theorem lc_22 {g : GP} {l : Launch} {b Ln : Nat} {xs : Nat → Int32} {nm : String} {G : GT} {ce sl : Nat} {A : Nat → Nat → Nat} {r : Nat → Nat} {τ : CS} {σ : RS} {iv : Int32} {k : Nat} {Inv : Nat → CS → RS → Prop} (hL : IsL g l b Ln xs nm G) (hin : ∀ j : Int32, 0 < j → j < 6 → inb (iv + j) Ln = true) (hce : ce + 3 ≤ 600000) (hsl : sl + 103 ≤ 7302250) (hag : ∀ a0 : Int32, Agree Inv (N_T_bell a0) (M_bell a0)) (hk : k < 600) (hInv : Inv k τ σ) (next : ∀ (A1 : Nat → Nat → Nat) (τ1 : CS) (σ1 : RS), A1 5 99 = A 5 99 → Inv (k + 1) τ1 σ1 → G (ce + 3) (sl + 103) (wC g A1 τ1 (wR g r σ1 [])) (lL b A1 r iv) 1384 []) : G ce sl (wC g A τ (wR g r σ [])) (lL b A r iv) 916 [] := by
  have hG := hL.toG
  obtain ⟨v, τ1, σ1, q1, q2, hI⟩ := hag (xs (ix (iv + 1))) k τ σ hk hInv
  refine g_aload_n hG dL_law_916 rfl ?_
  refine g_aload_n hG dL_law_917 rfl ?_
  refine g_iload_n hG dL_law_918 rfl ?_
  refine g_iconstv hG dL_law_919 ki_1 ?_
  refine g_iadd hG dL_law_920 ?_
  refine l_sld hL dL_law_921 (hin 1 (by decide) (by decide)) ?_
  refine g_cV hG dL_law_922 (c_N_T_bell q1) b_X11_bell v_L_109 rfl (eT g A _ _) rfl ⟨Nat.le_of_ble_eq_true rfl, Nat.le_of_ble_eq_true rfl⟩ ⟨rfl, rfl⟩ ⟨by show ce ≤ 600000; omega, by show sl ≤ 7302250; omega⟩ _ rfl (Nat.le_of_ble_eq_true rfl) ?_
  refine g_perm hG (wperm g A τ1 r σ) ?_
  refine g_aload_n hG dL_law_925 rfl ?_
  refine g_aload_n hG dL_law_926 rfl ?_
  refine g_iload_n hG dL_law_927 rfl ?_
  refine g_iconstv hG dL_law_928 ki_1 ?_
  refine g_iadd hG dL_law_929 ?_
  refine l_sld hL dL_law_930 (hin 1 (by decide) (by decide)) ?_
  refine g_cV hG dL_law_931 (c_M_bell q2) b_X12_bell v_L_112 rfl (k := 0) rfl rfl ⟨Nat.le_of_ble_eq_true rfl, Nat.le_of_ble_eq_true rfl⟩ ⟨rfl, rfl⟩ ⟨by show ce ≤ 600000; omega, by show sl ≤ 7302250; omega⟩ _ rfl (Nat.le_of_ble_eq_true rfl) ?_
  refine g_perm hG (wperm g A τ1 r σ1).symm ?_
  refine g_icmp_eq (tgt := 1384) hG dL_law_934 rfl (fun _ => ?_) (fun q => absurd rfl q)
  refine g_widen hG (k := ce + 3) (n := sl + 103) (by omega) (by omega) ?_
  exact next A τ1 σ1 rfl hI
set_option maxRecDepth 100000 in
set_option maxHeartbeats 4000000 in
theorem lc_23 {g : GP} {l : Launch} {b Ln : Nat} {xs : Nat → Int32} {nm : String} {G : GT} {ce sl : Nat} {A : Nat → Nat → Nat} {r : Nat → Nat} {τ : CS} {σ : RS} {iv : Int32} {k : Nat} {Inv : Nat → CS → RS → Prop} (hL : IsL g l b Ln xs nm G) (hin : ∀ j : Int32, 0 < j → j < 6 → inb (iv + j) Ln = true) (hce : ce + 3 ≤ 600000) (hsl : sl + 103 ≤ 7302250) (hag : ∀ a0 : Int32, ∀ a1 : Int32, ∀ a2 : Int32, ∀ a3 : Int32, Agree Inv (N_T_odds a0 a1 a2 a3) (M_odds a0 a1 a2 a3)) (hk : k < 600) (hInv : Inv k τ σ) (next : ∀ (A1 : Nat → Nat → Nat) (τ1 : CS) (σ1 : RS), A1 5 99 = A 5 99 → Inv (k + 1) τ1 σ1 → G (ce + 3) (sl + 103) (wC g A1 τ1 (wR g r σ1 [])) (lL b A1 r iv) 1384 []) : G ce sl (wC g A τ (wR g r σ [])) (lL b A r iv) 939 [] := by
  have hG := hL.toG
  obtain ⟨v, τ1, σ1, q1, q2, hI⟩ := hag (xs (ix (iv + 1))) (xs (ix (iv + 2))) (xs (ix (iv + 3))) (xs (ix (iv + 4))) k τ σ hk hInv
  refine g_aload_n hG dL_law_939 rfl ?_
  refine g_aload_n hG dL_law_940 rfl ?_
  refine g_iload_n hG dL_law_941 rfl ?_
  refine g_iconstv hG dL_law_942 ki_1 ?_
  refine g_iadd hG dL_law_943 ?_
  refine l_sld hL dL_law_944 (hin 1 (by decide) (by decide)) ?_
  refine g_aload_n hG dL_law_945 rfl ?_
  refine g_iload_n hG dL_law_946 rfl ?_
  refine g_iconstv hG dL_law_947 ki_2 ?_
  refine g_iadd hG dL_law_948 ?_
  refine l_sld hL dL_law_949 (hin 2 (by decide) (by decide)) ?_
  refine g_aload_n hG dL_law_950 rfl ?_
  refine g_iload_n hG dL_law_951 rfl ?_
  refine g_iconstv hG dL_law_952 ki_3 ?_
  refine g_iadd hG dL_law_953 ?_
  refine l_sld hL dL_law_954 (hin 3 (by decide) (by decide)) ?_
  refine g_aload_n hG dL_law_955 rfl ?_
  refine g_iload_n hG dL_law_956 rfl ?_
  refine g_iconstv hG dL_law_957 ki_4 ?_
  refine g_iadd hG dL_law_958 ?_
  refine l_sld hL dL_law_959 (hin 4 (by decide) (by decide)) ?_
  refine g_cV hG dL_law_960 (c_N_T_odds q1) b_X11_odds v_L_113 rfl (eT g A _ _) rfl ⟨Nat.le_of_ble_eq_true rfl, Nat.le_of_ble_eq_true rfl⟩ ⟨rfl, rfl⟩ ⟨by show ce ≤ 600000; omega, by show sl ≤ 7302250; omega⟩ _ rfl (Nat.le_of_ble_eq_true rfl) ?_
  refine g_perm hG (wperm g A τ1 r σ) ?_
  refine g_aload_n hG dL_law_963 rfl ?_
  refine g_aload_n hG dL_law_964 rfl ?_
  refine g_iload_n hG dL_law_965 rfl ?_
  refine g_iconstv hG dL_law_966 ki_1 ?_
  refine g_iadd hG dL_law_967 ?_
  refine l_sld hL dL_law_968 (hin 1 (by decide) (by decide)) ?_
  refine g_aload_n hG dL_law_969 rfl ?_
  refine g_iload_n hG dL_law_970 rfl ?_
  refine g_iconstv hG dL_law_971 ki_2 ?_
  refine g_iadd hG dL_law_972 ?_
  refine l_sld hL dL_law_973 (hin 2 (by decide) (by decide)) ?_
  refine g_aload_n hG dL_law_974 rfl ?_
  refine g_iload_n hG dL_law_975 rfl ?_
  refine g_iconstv hG dL_law_976 ki_3 ?_
  refine g_iadd hG dL_law_977 ?_
  refine l_sld hL dL_law_978 (hin 3 (by decide) (by decide)) ?_
  refine g_aload_n hG dL_law_979 rfl ?_
  refine g_iload_n hG dL_law_980 rfl ?_
  refine g_iconstv hG dL_law_981 ki_4 ?_
  refine g_iadd hG dL_law_982 ?_
  refine l_sld hL dL_law_983 (hin 4 (by decide) (by decide)) ?_
  refine g_cV hG dL_law_984 (c_M_odds q2) b_X12_odds v_L_116 rfl (k := 0) rfl rfl ⟨Nat.le_of_ble_eq_true rfl, Nat.le_of_ble_eq_true rfl⟩ ⟨rfl, rfl⟩ ⟨by show ce ≤ 600000; omega, by show sl ≤ 7302250; omega⟩ _ rfl (Nat.le_of_ble_eq_true rfl) ?_
  refine g_perm hG (wperm g A τ1 r σ1).symm ?_
  refine g_icmp_eq (tgt := 1384) hG dL_law_987 rfl (fun _ => ?_) (fun q => absurd rfl q)
  refine g_widen hG (k := ce + 3) (n := sl + 103) (by omega) (by omega) ?_
  exact next A τ1 σ1 rfl hI
set_option maxRecDepth 100000 in
set_option maxHeartbeats 4000000 in
theorem lc_24 {g : GP} {l : Launch} {b Ln : Nat} {xs : Nat → Int32} {nm : String} {G : GT} {ce sl : Nat} {A : Nat → Nat → Nat} {r : Nat → Nat} {τ : CS} {σ : RS} {iv : Int32} {k : Nat} {Inv : Nat → CS → RS → Prop} (hL : IsL g l b Ln xs nm G) (hin : ∀ j : Int32, 0 < j → j < 6 → inb (iv + j) Ln = true) (hce : ce + 3 ≤ 600000) (hsl : sl + 103 ≤ 7302250) (hag : ∀ a0 : Int32, Agree Inv (N_T_seed a0) (M_seed a0)) (hk : k < 600) (hInv : Inv k τ σ) (next : ∀ (A1 : Nat → Nat → Nat) (τ1 : CS) (σ1 : RS), A1 5 99 = A 5 99 → Inv (k + 1) τ1 σ1 → G (ce + 3) (sl + 103) (wC g A1 τ1 (wR g r σ1 [])) (lL b A1 r iv) 1384 []) : G ce sl (wC g A τ (wR g r σ [])) (lL b A r iv) 992 [] := by
  have hG := hL.toG
  obtain ⟨v, τ1, σ1, q1, q2, hI⟩ := hag (xs (ix (iv + 1))) k τ σ hk hInv
  refine g_aload_n hG dL_law_992 rfl ?_
  refine g_aload_n hG dL_law_993 rfl ?_
  refine g_iload_n hG dL_law_994 rfl ?_
  refine g_iconstv hG dL_law_995 ki_1 ?_
  refine g_iadd hG dL_law_996 ?_
  refine l_sld hL dL_law_997 (hin 1 (by decide) (by decide)) ?_
  refine g_cV hG dL_law_998 (c_N_T_seed q1) b_X11_seed v_L_117 rfl (eT g A _ _) rfl ⟨Nat.le_of_ble_eq_true rfl, Nat.le_of_ble_eq_true rfl⟩ ⟨rfl, rfl⟩ ⟨by show ce ≤ 600000; omega, by show sl ≤ 7302250; omega⟩ _ rfl (Nat.le_of_ble_eq_true rfl) ?_
  refine g_perm hG (wperm g A τ1 r σ) ?_
  refine g_aload_n hG dL_law_1001 rfl ?_
  refine g_aload_n hG dL_law_1002 rfl ?_
  refine g_iload_n hG dL_law_1003 rfl ?_
  refine g_iconstv hG dL_law_1004 ki_1 ?_
  refine g_iadd hG dL_law_1005 ?_
  refine l_sld hL dL_law_1006 (hin 1 (by decide) (by decide)) ?_
  refine g_cV hG dL_law_1007 (c_M_seed q2) b_X12_seed v_L_120 rfl (k := 0) rfl rfl ⟨Nat.le_of_ble_eq_true rfl, Nat.le_of_ble_eq_true rfl⟩ ⟨rfl, rfl⟩ ⟨by show ce ≤ 600000; omega, by show sl ≤ 7302250; omega⟩ _ rfl (Nat.le_of_ble_eq_true rfl) ?_
  refine g_perm hG (wperm g A τ1 r σ1).symm ?_
  refine g_icmp_eq (tgt := 1384) hG dL_law_1010 rfl (fun _ => ?_) (fun q => absurd rfl q)
  refine g_widen hG (k := ce + 3) (n := sl + 103) (by omega) (by omega) ?_
  exact next A τ1 σ1 rfl hI
set_option maxRecDepth 100000 in
set_option maxHeartbeats 4000000 in
theorem lc_25 {g : GP} {l : Launch} {b Ln : Nat} {xs : Nat → Int32} {nm : String} {G : GT} {ce sl : Nat} {A : Nat → Nat → Nat} {r : Nat → Nat} {τ : CS} {σ : RS} {iv : Int32} {k : Nat} {Inv : Nat → CS → RS → Prop} (hL : IsL g l b Ln xs nm G) (hin : ∀ j : Int32, 0 < j → j < 6 → inb (iv + j) Ln = true) (hce : ce + 3 ≤ 600000) (hsl : sl + 103 ≤ 7302250) (hag : ∀ a0 : Int32, ∀ a1 : Int32, ∀ a2 : Int32, Agree Inv (N_T_voice a0 a1 a2) (M_voice a0 a1 a2)) (hk : k < 600) (hInv : Inv k τ σ) (next : ∀ (A1 : Nat → Nat → Nat) (τ1 : CS) (σ1 : RS), A1 5 99 = A 5 99 → Inv (k + 1) τ1 σ1 → G (ce + 3) (sl + 103) (wC g A1 τ1 (wR g r σ1 [])) (lL b A1 r iv) 1384 []) : G ce sl (wC g A τ (wR g r σ [])) (lL b A r iv) 1015 [] := by
  have hG := hL.toG
  obtain ⟨v, τ1, σ1, q1, q2, hI⟩ := hag (xs (ix (iv + 1))) (xs (ix (iv + 2))) (xs (ix (iv + 3))) k τ σ hk hInv
  refine g_aload_n hG dL_law_1015 rfl ?_
  refine g_aload_n hG dL_law_1016 rfl ?_
  refine g_iload_n hG dL_law_1017 rfl ?_
  refine g_iconstv hG dL_law_1018 ki_1 ?_
  refine g_iadd hG dL_law_1019 ?_
  refine l_sld hL dL_law_1020 (hin 1 (by decide) (by decide)) ?_
  refine g_aload_n hG dL_law_1021 rfl ?_
  refine g_iload_n hG dL_law_1022 rfl ?_
  refine g_iconstv hG dL_law_1023 ki_2 ?_
  refine g_iadd hG dL_law_1024 ?_
  refine l_sld hL dL_law_1025 (hin 2 (by decide) (by decide)) ?_
  refine g_aload_n hG dL_law_1026 rfl ?_
  refine g_iload_n hG dL_law_1027 rfl ?_
  refine g_iconstv hG dL_law_1028 ki_3 ?_
  refine g_iadd hG dL_law_1029 ?_
  refine l_sld hL dL_law_1030 (hin 3 (by decide) (by decide)) ?_
  refine g_cV hG dL_law_1031 (c_N_T_voice q1) b_X11_voice v_L_121 rfl (eT g A _ _) rfl ⟨Nat.le_of_ble_eq_true rfl, Nat.le_of_ble_eq_true rfl⟩ ⟨rfl, rfl⟩ ⟨by show ce ≤ 600000; omega, by show sl ≤ 7302250; omega⟩ _ rfl (Nat.le_of_ble_eq_true rfl) ?_
  refine g_perm hG (wperm g A τ1 r σ) ?_
  refine g_aload_n hG dL_law_1034 rfl ?_
  refine g_aload_n hG dL_law_1035 rfl ?_
  refine g_iload_n hG dL_law_1036 rfl ?_
  refine g_iconstv hG dL_law_1037 ki_1 ?_
  refine g_iadd hG dL_law_1038 ?_
  refine l_sld hL dL_law_1039 (hin 1 (by decide) (by decide)) ?_
  refine g_aload_n hG dL_law_1040 rfl ?_
  refine g_iload_n hG dL_law_1041 rfl ?_
  refine g_iconstv hG dL_law_1042 ki_2 ?_
  refine g_iadd hG dL_law_1043 ?_
  refine l_sld hL dL_law_1044 (hin 2 (by decide) (by decide)) ?_
  refine g_aload_n hG dL_law_1045 rfl ?_
  refine g_iload_n hG dL_law_1046 rfl ?_
  refine g_iconstv hG dL_law_1047 ki_3 ?_
  refine g_iadd hG dL_law_1048 ?_
  refine l_sld hL dL_law_1049 (hin 3 (by decide) (by decide)) ?_
  refine g_cV hG dL_law_1050 (c_M_voice q2) b_X12_voice v_L_124 rfl (k := 0) rfl rfl ⟨Nat.le_of_ble_eq_true rfl, Nat.le_of_ble_eq_true rfl⟩ ⟨rfl, rfl⟩ ⟨by show ce ≤ 600000; omega, by show sl ≤ 7302250; omega⟩ _ rfl (Nat.le_of_ble_eq_true rfl) ?_
  refine g_perm hG (wperm g A τ1 r σ1).symm ?_
  refine g_icmp_eq (tgt := 1384) hG dL_law_1053 rfl (fun _ => ?_) (fun q => absurd rfl q)
  refine g_widen hG (k := ce + 3) (n := sl + 103) (by omega) (by omega) ?_
  exact next A τ1 σ1 rfl hI
set_option maxRecDepth 100000 in
set_option maxHeartbeats 4000000 in
theorem lc_26 {g : GP} {l : Launch} {b Ln : Nat} {xs : Nat → Int32} {nm : String} {G : GT} {ce sl : Nat} {A : Nat → Nat → Nat} {r : Nat → Nat} {τ : CS} {σ : RS} {iv : Int32} {k : Nat} {Inv : Nat → CS → RS → Prop} (hL : IsL g l b Ln xs nm G) (hin : ∀ j : Int32, 0 < j → j < 6 → inb (iv + j) Ln = true) (hce : ce + 3 ≤ 600000) (hsl : sl + 103 ≤ 7302250) (hag : ∀ a0 : Int32, Agree Inv (N_T_trace a0) (M_trace a0)) (hk : k < 600) (hInv : Inv k τ σ) (next : ∀ (A1 : Nat → Nat → Nat) (τ1 : CS) (σ1 : RS), A1 5 99 = A 5 99 → Inv (k + 1) τ1 σ1 → G (ce + 3) (sl + 103) (wC g A1 τ1 (wR g r σ1 [])) (lL b A1 r iv) 1384 []) : G ce sl (wC g A τ (wR g r σ [])) (lL b A r iv) 1058 [] := by
  have hG := hL.toG
  obtain ⟨v, τ1, σ1, q1, q2, hI⟩ := hag (xs (ix (iv + 1))) k τ σ hk hInv
  refine g_aload_n hG dL_law_1058 rfl ?_
  refine g_aload_n hG dL_law_1059 rfl ?_
  refine g_iload_n hG dL_law_1060 rfl ?_
  refine g_iconstv hG dL_law_1061 ki_1 ?_
  refine g_iadd hG dL_law_1062 ?_
  refine l_sld hL dL_law_1063 (hin 1 (by decide) (by decide)) ?_
  refine g_cV hG dL_law_1064 (c_N_T_trace q1) b_X11_trace v_L_125 rfl (eT g A _ _) rfl ⟨Nat.le_of_ble_eq_true rfl, Nat.le_of_ble_eq_true rfl⟩ ⟨rfl, rfl⟩ ⟨by show ce ≤ 600000; omega, by show sl ≤ 7302250; omega⟩ _ rfl (Nat.le_of_ble_eq_true rfl) ?_
  refine g_perm hG (wperm g A τ1 r σ) ?_
  refine g_aload_n hG dL_law_1067 rfl ?_
  refine g_aload_n hG dL_law_1068 rfl ?_
  refine g_iload_n hG dL_law_1069 rfl ?_
  refine g_iconstv hG dL_law_1070 ki_1 ?_
  refine g_iadd hG dL_law_1071 ?_
  refine l_sld hL dL_law_1072 (hin 1 (by decide) (by decide)) ?_
  refine g_cV hG dL_law_1073 (c_M_trace q2) b_X12_trace v_L_128 rfl (k := 0) rfl rfl ⟨Nat.le_of_ble_eq_true rfl, Nat.le_of_ble_eq_true rfl⟩ ⟨rfl, rfl⟩ ⟨by show ce ≤ 600000; omega, by show sl ≤ 7302250; omega⟩ _ rfl (Nat.le_of_ble_eq_true rfl) ?_
  refine g_perm hG (wperm g A τ1 r σ1).symm ?_
  refine g_icmp_eq (tgt := 1384) hG dL_law_1076 rfl (fun _ => ?_) (fun q => absurd rfl q)
  refine g_widen hG (k := ce + 3) (n := sl + 103) (by omega) (by omega) ?_
  exact next A τ1 σ1 rfl hI
set_option maxRecDepth 100000 in
set_option maxHeartbeats 4000000 in
theorem lc_27 {g : GP} {l : Launch} {b Ln : Nat} {xs : Nat → Int32} {nm : String} {G : GT} {ce sl : Nat} {A : Nat → Nat → Nat} {r : Nat → Nat} {τ : CS} {σ : RS} {iv : Int32} {k : Nat} {Inv : Nat → CS → RS → Prop} (hL : IsL g l b Ln xs nm G) (hin : ∀ j : Int32, 0 < j → j < 6 → inb (iv + j) Ln = true) (hce : ce + 3 ≤ 600000) (hsl : sl + 103 ≤ 7302250) (hag : ∀ a0 : Int32, ∀ a1 : Int32, ∀ a2 : Int32, Agree Inv (N_T_sheet a0 a1 a2) (M_sheet a0 a1 a2)) (hk : k < 600) (hInv : Inv k τ σ) (next : ∀ (A1 : Nat → Nat → Nat) (τ1 : CS) (σ1 : RS), A1 5 99 = A 5 99 → Inv (k + 1) τ1 σ1 → G (ce + 3) (sl + 103) (wC g A1 τ1 (wR g r σ1 [])) (lL b A1 r iv) 1384 []) : G ce sl (wC g A τ (wR g r σ [])) (lL b A r iv) 1081 [] := by
  have hG := hL.toG
  obtain ⟨v, τ1, σ1, q1, q2, hI⟩ := hag (xs (ix (iv + 1))) (xs (ix (iv + 2))) (xs (ix (iv + 3))) k τ σ hk hInv
  refine g_aload_n hG dL_law_1081 rfl ?_
  refine g_aload_n hG dL_law_1082 rfl ?_
  refine g_iload_n hG dL_law_1083 rfl ?_
  refine g_iconstv hG dL_law_1084 ki_1 ?_
  refine g_iadd hG dL_law_1085 ?_
  refine l_sld hL dL_law_1086 (hin 1 (by decide) (by decide)) ?_
  refine g_aload_n hG dL_law_1087 rfl ?_
  refine g_iload_n hG dL_law_1088 rfl ?_
  refine g_iconstv hG dL_law_1089 ki_2 ?_
  refine g_iadd hG dL_law_1090 ?_
  refine l_sld hL dL_law_1091 (hin 2 (by decide) (by decide)) ?_
  refine g_aload_n hG dL_law_1092 rfl ?_
  refine g_iload_n hG dL_law_1093 rfl ?_
  refine g_iconstv hG dL_law_1094 ki_3 ?_
  refine g_iadd hG dL_law_1095 ?_
  refine l_sld hL dL_law_1096 (hin 3 (by decide) (by decide)) ?_
  refine g_cV hG dL_law_1097 (c_N_T_sheet q1) b_X11_sheet v_L_129 rfl (eT g A _ _) rfl ⟨Nat.le_of_ble_eq_true rfl, Nat.le_of_ble_eq_true rfl⟩ ⟨rfl, rfl⟩ ⟨by show ce ≤ 600000; omega, by show sl ≤ 7302250; omega⟩ _ rfl (Nat.le_of_ble_eq_true rfl) ?_
  refine g_perm hG (wperm g A τ1 r σ) ?_
  refine g_aload_n hG dL_law_1100 rfl ?_
  refine g_aload_n hG dL_law_1101 rfl ?_
  refine g_iload_n hG dL_law_1102 rfl ?_
  refine g_iconstv hG dL_law_1103 ki_1 ?_
  refine g_iadd hG dL_law_1104 ?_
  refine l_sld hL dL_law_1105 (hin 1 (by decide) (by decide)) ?_
  refine g_aload_n hG dL_law_1106 rfl ?_
  refine g_iload_n hG dL_law_1107 rfl ?_
  refine g_iconstv hG dL_law_1108 ki_2 ?_
  refine g_iadd hG dL_law_1109 ?_
  refine l_sld hL dL_law_1110 (hin 2 (by decide) (by decide)) ?_
  refine g_aload_n hG dL_law_1111 rfl ?_
  refine g_iload_n hG dL_law_1112 rfl ?_
  refine g_iconstv hG dL_law_1113 ki_3 ?_
  refine g_iadd hG dL_law_1114 ?_
  refine l_sld hL dL_law_1115 (hin 3 (by decide) (by decide)) ?_
  refine g_cV hG dL_law_1116 (c_M_sheet q2) b_X12_sheet v_L_132 rfl (k := 0) rfl rfl ⟨Nat.le_of_ble_eq_true rfl, Nat.le_of_ble_eq_true rfl⟩ ⟨rfl, rfl⟩ ⟨by show ce ≤ 600000; omega, by show sl ≤ 7302250; omega⟩ _ rfl (Nat.le_of_ble_eq_true rfl) ?_
  refine g_perm hG (wperm g A τ1 r σ1).symm ?_
  refine g_icmp_eq (tgt := 1384) hG dL_law_1119 rfl (fun _ => ?_) (fun q => absurd rfl q)
  refine g_widen hG (k := ce + 3) (n := sl + 103) (by omega) (by omega) ?_
  exact next A τ1 σ1 rfl hI
set_option maxRecDepth 100000 in
set_option maxHeartbeats 4000000 in
theorem lc_28 {g : GP} {l : Launch} {b Ln : Nat} {xs : Nat → Int32} {nm : String} {G : GT} {ce sl : Nat} {A : Nat → Nat → Nat} {r : Nat → Nat} {τ : CS} {σ : RS} {iv : Int32} {k : Nat} {Inv : Nat → CS → RS → Prop} (hL : IsL g l b Ln xs nm G) (hin : ∀ j : Int32, 0 < j → j < 6 → inb (iv + j) Ln = true) (hce : ce + 3 ≤ 600000) (hsl : sl + 103 ≤ 7302250) (hag : ∀ a0 : Int32, ∀ a1 : Int32, ∀ a2 : Int32, Agree Inv (N_T_put a0 a1 a2) (M_put a0 a1 a2)) (hk : k < 600) (hInv : Inv k τ σ) (next : ∀ (A1 : Nat → Nat → Nat) (τ1 : CS) (σ1 : RS), A1 5 99 = A 5 99 → Inv (k + 1) τ1 σ1 → G (ce + 3) (sl + 103) (wC g A1 τ1 (wR g r σ1 [])) (lL b A1 r iv) 1384 []) : G ce sl (wC g A τ (wR g r σ [])) (lL b A r iv) 1124 [] := by
  have hG := hL.toG
  obtain ⟨v, τ1, σ1, q1, q2, hI⟩ := hag (xs (ix (iv + 1))) (xs (ix (iv + 2))) (xs (ix (iv + 3))) k τ σ hk hInv
  refine g_aload_n hG dL_law_1124 rfl ?_
  refine g_aload_n hG dL_law_1125 rfl ?_
  refine g_iload_n hG dL_law_1126 rfl ?_
  refine g_iconstv hG dL_law_1127 ki_1 ?_
  refine g_iadd hG dL_law_1128 ?_
  refine l_sld hL dL_law_1129 (hin 1 (by decide) (by decide)) ?_
  refine g_aload_n hG dL_law_1130 rfl ?_
  refine g_iload_n hG dL_law_1131 rfl ?_
  refine g_iconstv hG dL_law_1132 ki_2 ?_
  refine g_iadd hG dL_law_1133 ?_
  refine l_sld hL dL_law_1134 (hin 2 (by decide) (by decide)) ?_
  refine g_aload_n hG dL_law_1135 rfl ?_
  refine g_iload_n hG dL_law_1136 rfl ?_
  refine g_iconstv hG dL_law_1137 ki_3 ?_
  refine g_iadd hG dL_law_1138 ?_
  refine l_sld hL dL_law_1139 (hin 3 (by decide) (by decide)) ?_
  refine g_cV hG dL_law_1140 (c_N_T_put q1) b_X11_put v_L_133 rfl (eT g A _ _) rfl ⟨Nat.le_of_ble_eq_true rfl, Nat.le_of_ble_eq_true rfl⟩ ⟨rfl, rfl⟩ ⟨by show ce ≤ 600000; omega, by show sl ≤ 7302250; omega⟩ _ rfl (Nat.le_of_ble_eq_true rfl) ?_
  refine g_perm hG (wperm g A τ1 r σ) ?_
  refine g_aload_n hG dL_law_1143 rfl ?_
  refine g_aload_n hG dL_law_1144 rfl ?_
  refine g_iload_n hG dL_law_1145 rfl ?_
  refine g_iconstv hG dL_law_1146 ki_1 ?_
  refine g_iadd hG dL_law_1147 ?_
  refine l_sld hL dL_law_1148 (hin 1 (by decide) (by decide)) ?_
  refine g_aload_n hG dL_law_1149 rfl ?_
  refine g_iload_n hG dL_law_1150 rfl ?_
  refine g_iconstv hG dL_law_1151 ki_2 ?_
  refine g_iadd hG dL_law_1152 ?_
  refine l_sld hL dL_law_1153 (hin 2 (by decide) (by decide)) ?_
  refine g_aload_n hG dL_law_1154 rfl ?_
  refine g_iload_n hG dL_law_1155 rfl ?_
  refine g_iconstv hG dL_law_1156 ki_3 ?_
  refine g_iadd hG dL_law_1157 ?_
  refine l_sld hL dL_law_1158 (hin 3 (by decide) (by decide)) ?_
  refine g_cV hG dL_law_1159 (c_M_put q2) b_X12_put v_L_136 rfl (k := 0) rfl rfl ⟨Nat.le_of_ble_eq_true rfl, Nat.le_of_ble_eq_true rfl⟩ ⟨rfl, rfl⟩ ⟨by show ce ≤ 600000; omega, by show sl ≤ 7302250; omega⟩ _ rfl (Nat.le_of_ble_eq_true rfl) ?_
  refine g_perm hG (wperm g A τ1 r σ1).symm ?_
  refine g_icmp_eq (tgt := 1384) hG dL_law_1162 rfl (fun _ => ?_) (fun q => absurd rfl q)
  refine g_widen hG (k := ce + 3) (n := sl + 103) (by omega) (by omega) ?_
  exact next A τ1 σ1 rfl hI
set_option maxRecDepth 100000 in
set_option maxHeartbeats 4000000 in
theorem lc_29 {g : GP} {l : Launch} {b Ln : Nat} {xs : Nat → Int32} {nm : String} {G : GT} {ce sl : Nat} {A : Nat → Nat → Nat} {r : Nat → Nat} {τ : CS} {σ : RS} {iv : Int32} {k : Nat} {Inv : Nat → CS → RS → Prop} (hL : IsL g l b Ln xs nm G) (hin : ∀ j : Int32, 0 < j → j < 6 → inb (iv + j) Ln = true) (hce : ce + 3 ≤ 600000) (hsl : sl + 103 ≤ 7302250) (hag : ∀ a0 : Int32, ∀ a1 : Int32, ∀ a2 : Int32, ∀ a3 : Int32, ∀ a4 : Int32, Agree Inv (N_T_move a0 a1 a2 a3 a4) (M_move a0 a1 a2 a3 a4)) (hk : k < 600) (hInv : Inv k τ σ) (next : ∀ (A1 : Nat → Nat → Nat) (τ1 : CS) (σ1 : RS), A1 5 99 = A 5 99 → Inv (k + 1) τ1 σ1 → G (ce + 3) (sl + 103) (wC g A1 τ1 (wR g r σ1 [])) (lL b A1 r iv) 1384 []) : G ce sl (wC g A τ (wR g r σ [])) (lL b A r iv) 1167 [] := by
  have hG := hL.toG
  obtain ⟨v, τ1, σ1, q1, q2, hI⟩ := hag (xs (ix (iv + 1))) (xs (ix (iv + 2))) (xs (ix (iv + 3))) (xs (ix (iv + 4))) (xs (ix (iv + 5))) k τ σ hk hInv
  refine g_aload_n hG dL_law_1167 rfl ?_
  refine g_aload_n hG dL_law_1168 rfl ?_
  refine g_iload_n hG dL_law_1169 rfl ?_
  refine g_iconstv hG dL_law_1170 ki_1 ?_
  refine g_iadd hG dL_law_1171 ?_
  refine l_sld hL dL_law_1172 (hin 1 (by decide) (by decide)) ?_
  refine g_aload_n hG dL_law_1173 rfl ?_
  refine g_iload_n hG dL_law_1174 rfl ?_
  refine g_iconstv hG dL_law_1175 ki_2 ?_
  refine g_iadd hG dL_law_1176 ?_
  refine l_sld hL dL_law_1177 (hin 2 (by decide) (by decide)) ?_
  refine g_aload_n hG dL_law_1178 rfl ?_
  refine g_iload_n hG dL_law_1179 rfl ?_
  refine g_iconstv hG dL_law_1180 ki_3 ?_
  refine g_iadd hG dL_law_1181 ?_
  refine l_sld hL dL_law_1182 (hin 3 (by decide) (by decide)) ?_
  refine g_aload_n hG dL_law_1183 rfl ?_
  refine g_iload_n hG dL_law_1184 rfl ?_
  refine g_iconstv hG dL_law_1185 ki_4 ?_
  refine g_iadd hG dL_law_1186 ?_
  refine l_sld hL dL_law_1187 (hin 4 (by decide) (by decide)) ?_
  refine g_aload_n hG dL_law_1188 rfl ?_
  refine g_iload_n hG dL_law_1189 rfl ?_
  refine g_iconstv hG dL_law_1190 ki_5 ?_
  refine g_iadd hG dL_law_1191 ?_
  refine l_sld hL dL_law_1192 (hin 5 (by decide) (by decide)) ?_
  refine g_cV hG dL_law_1193 (c_N_T_move q1) b_X11_move v_L_137 rfl (eT g A _ _) rfl ⟨Nat.le_of_ble_eq_true rfl, Nat.le_of_ble_eq_true rfl⟩ ⟨rfl, rfl⟩ ⟨by show ce ≤ 600000; omega, by show sl ≤ 7302250; omega⟩ _ rfl (Nat.le_of_ble_eq_true rfl) ?_
  refine g_perm hG (wperm g A τ1 r σ) ?_
  refine g_aload_n hG dL_law_1196 rfl ?_
  refine g_aload_n hG dL_law_1197 rfl ?_
  refine g_iload_n hG dL_law_1198 rfl ?_
  refine g_iconstv hG dL_law_1199 ki_1 ?_
  refine g_iadd hG dL_law_1200 ?_
  refine l_sld hL dL_law_1201 (hin 1 (by decide) (by decide)) ?_
  refine g_aload_n hG dL_law_1202 rfl ?_
  refine g_iload_n hG dL_law_1203 rfl ?_
  refine g_iconstv hG dL_law_1204 ki_2 ?_
  refine g_iadd hG dL_law_1205 ?_
  refine l_sld hL dL_law_1206 (hin 2 (by decide) (by decide)) ?_
  refine g_aload_n hG dL_law_1207 rfl ?_
  refine g_iload_n hG dL_law_1208 rfl ?_
  refine g_iconstv hG dL_law_1209 ki_3 ?_
  refine g_iadd hG dL_law_1210 ?_
  refine l_sld hL dL_law_1211 (hin 3 (by decide) (by decide)) ?_
  refine g_aload_n hG dL_law_1212 rfl ?_
  refine g_iload_n hG dL_law_1213 rfl ?_
  refine g_iconstv hG dL_law_1214 ki_4 ?_
  refine g_iadd hG dL_law_1215 ?_
  refine l_sld hL dL_law_1216 (hin 4 (by decide) (by decide)) ?_
  refine g_aload_n hG dL_law_1217 rfl ?_
  refine g_iload_n hG dL_law_1218 rfl ?_
  refine g_iconstv hG dL_law_1219 ki_5 ?_
  refine g_iadd hG dL_law_1220 ?_
  refine l_sld hL dL_law_1221 (hin 5 (by decide) (by decide)) ?_
  refine g_cV hG dL_law_1222 (c_M_move q2) b_X12_move v_L_141 rfl (k := 0) rfl rfl ⟨Nat.le_of_ble_eq_true rfl, Nat.le_of_ble_eq_true rfl⟩ ⟨rfl, rfl⟩ ⟨by show ce ≤ 600000; omega, by show sl ≤ 7302250; omega⟩ _ rfl (Nat.le_of_ble_eq_true rfl) ?_
  refine g_perm hG (wperm g A τ1 r σ1).symm ?_
  refine g_icmp_eq (tgt := 1384) hG dL_law_1225 rfl (fun _ => ?_) (fun q => absurd rfl q)
  refine g_widen hG (k := ce + 3) (n := sl + 103) (by omega) (by omega) ?_
  exact next A τ1 σ1 rfl hI
set_option maxRecDepth 100000 in
set_option maxHeartbeats 4000000 in
theorem lc_30 {g : GP} {l : Launch} {b Ln : Nat} {xs : Nat → Int32} {nm : String} {G : GT} {ce sl : Nat} {A : Nat → Nat → Nat} {r : Nat → Nat} {τ : CS} {σ : RS} {iv : Int32} {k : Nat} {Inv : Nat → CS → RS → Prop} (hL : IsL g l b Ln xs nm G) (hin : ∀ j : Int32, 0 < j → j < 6 → inb (iv + j) Ln = true) (hce : ce + 3 ≤ 600000) (hsl : sl + 103 ≤ 7302250) (hag : ∀ a0 : Int32, Agree Inv (N_T_dirts a0) (M_dirts a0)) (hk : k < 600) (hInv : Inv k τ σ) (next : ∀ (A1 : Nat → Nat → Nat) (τ1 : CS) (σ1 : RS), A1 5 99 = A 5 99 → Inv (k + 1) τ1 σ1 → G (ce + 3) (sl + 103) (wC g A1 τ1 (wR g r σ1 [])) (lL b A1 r iv) 1384 []) : G ce sl (wC g A τ (wR g r σ [])) (lL b A r iv) 1230 [] := by
  have hG := hL.toG
  obtain ⟨v, τ1, σ1, q1, q2, hI⟩ := hag (xs (ix (iv + 1))) k τ σ hk hInv
  refine g_aload_n hG dL_law_1230 rfl ?_
  refine g_aload_n hG dL_law_1231 rfl ?_
  refine g_iload_n hG dL_law_1232 rfl ?_
  refine g_iconstv hG dL_law_1233 ki_1 ?_
  refine g_iadd hG dL_law_1234 ?_
  refine l_sld hL dL_law_1235 (hin 1 (by decide) (by decide)) ?_
  refine g_cV hG dL_law_1236 (c_N_T_dirts q1) b_X11_dirts v_L_142 rfl (eT g A _ _) rfl ⟨Nat.le_of_ble_eq_true rfl, Nat.le_of_ble_eq_true rfl⟩ ⟨rfl, rfl⟩ ⟨by show ce ≤ 600000; omega, by show sl ≤ 7302250; omega⟩ _ rfl (Nat.le_of_ble_eq_true rfl) ?_
  refine g_perm hG (wperm g A τ1 r σ) ?_
  refine g_aload_n hG dL_law_1239 rfl ?_
  refine g_aload_n hG dL_law_1240 rfl ?_
  refine g_iload_n hG dL_law_1241 rfl ?_
  refine g_iconstv hG dL_law_1242 ki_1 ?_
  refine g_iadd hG dL_law_1243 ?_
  refine l_sld hL dL_law_1244 (hin 1 (by decide) (by decide)) ?_
  refine g_cV hG dL_law_1245 (c_M_dirts q2) b_X12_dirts v_L_145 rfl (k := 0) rfl rfl ⟨Nat.le_of_ble_eq_true rfl, Nat.le_of_ble_eq_true rfl⟩ ⟨rfl, rfl⟩ ⟨by show ce ≤ 600000; omega, by show sl ≤ 7302250; omega⟩ _ rfl (Nat.le_of_ble_eq_true rfl) ?_
  refine g_perm hG (wperm g A τ1 r σ1).symm ?_
  refine g_icmp_eq (tgt := 1384) hG dL_law_1248 rfl (fun _ => ?_) (fun q => absurd rfl q)
  refine g_widen hG (k := ce + 3) (n := sl + 103) (by omega) (by omega) ?_
  exact next A τ1 σ1 rfl hI
set_option maxRecDepth 100000 in
set_option maxHeartbeats 4000000 in
theorem lc_31 {g : GP} {l : Launch} {b Ln : Nat} {xs : Nat → Int32} {nm : String} {G : GT} {ce sl : Nat} {A : Nat → Nat → Nat} {r : Nat → Nat} {τ : CS} {σ : RS} {iv : Int32} {k : Nat} {Inv : Nat → CS → RS → Prop} (hL : IsL g l b Ln xs nm G) (hin : ∀ j : Int32, 0 < j → j < 6 → inb (iv + j) Ln = true) (hce : ce + 3 ≤ 600000) (hsl : sl + 103 ≤ 7302250) (hag : ∀ a0 : Int32, Agree Inv (N_T_judge a0) (M_judge a0)) (hk : k < 600) (hInv : Inv k τ σ) (next : ∀ (A1 : Nat → Nat → Nat) (τ1 : CS) (σ1 : RS), A1 5 99 = A 5 99 → Inv (k + 1) τ1 σ1 → G (ce + 3) (sl + 103) (wC g A1 τ1 (wR g r σ1 [])) (lL b A1 r iv) 1384 []) : G ce sl (wC g A τ (wR g r σ [])) (lL b A r iv) 1253 [] := by
  have hG := hL.toG
  obtain ⟨v, τ1, σ1, q1, q2, hI⟩ := hag (xs (ix (iv + 1))) k τ σ hk hInv
  refine g_aload_n hG dL_law_1253 rfl ?_
  refine g_aload_n hG dL_law_1254 rfl ?_
  refine g_iload_n hG dL_law_1255 rfl ?_
  refine g_iconstv hG dL_law_1256 ki_1 ?_
  refine g_iadd hG dL_law_1257 ?_
  refine l_sld hL dL_law_1258 (hin 1 (by decide) (by decide)) ?_
  refine g_cV hG dL_law_1259 (c_N_T_judge q1) b_X11_judge v_L_146 rfl (eT g A _ _) rfl ⟨Nat.le_of_ble_eq_true rfl, Nat.le_of_ble_eq_true rfl⟩ ⟨rfl, rfl⟩ ⟨by show ce ≤ 600000; omega, by show sl ≤ 7302250; omega⟩ _ rfl (Nat.le_of_ble_eq_true rfl) ?_
  refine g_perm hG (wperm g A τ1 r σ) ?_
  refine g_aload_n hG dL_law_1262 rfl ?_
  refine g_aload_n hG dL_law_1263 rfl ?_
  refine g_iload_n hG dL_law_1264 rfl ?_
  refine g_iconstv hG dL_law_1265 ki_1 ?_
  refine g_iadd hG dL_law_1266 ?_
  refine l_sld hL dL_law_1267 (hin 1 (by decide) (by decide)) ?_
  refine g_cV hG dL_law_1268 (c_M_judge q2) b_X12_judge v_L_149 rfl (k := 0) rfl rfl ⟨Nat.le_of_ble_eq_true rfl, Nat.le_of_ble_eq_true rfl⟩ ⟨rfl, rfl⟩ ⟨by show ce ≤ 600000; omega, by show sl ≤ 7302250; omega⟩ _ rfl (Nat.le_of_ble_eq_true rfl) ?_
  refine g_perm hG (wperm g A τ1 r σ1).symm ?_
  refine g_icmp_eq (tgt := 1384) hG dL_law_1271 rfl (fun _ => ?_) (fun q => absurd rfl q)
  refine g_widen hG (k := ce + 3) (n := sl + 103) (by omega) (by omega) ?_
  exact next A τ1 σ1 rfl hI
set_option maxRecDepth 100000 in
set_option maxHeartbeats 4000000 in
theorem lc_32 {g : GP} {l : Launch} {b Ln : Nat} {xs : Nat → Int32} {nm : String} {G : GT} {ce sl : Nat} {A : Nat → Nat → Nat} {r : Nat → Nat} {τ : CS} {σ : RS} {iv : Int32} {k : Nat} {Inv : Nat → CS → RS → Prop} (hL : IsL g l b Ln xs nm G) (hin : ∀ j : Int32, 0 < j → j < 6 → inb (iv + j) Ln = true) (hce : ce + 3 ≤ 600000) (hsl : sl + 103 ≤ 7302250) (hag : Agree Inv (N_T_image ) (M_image )) (hk : k < 600) (hInv : Inv k τ σ) (next : ∀ (A1 : Nat → Nat → Nat) (τ1 : CS) (σ1 : RS), A1 5 99 = A 5 99 → Inv (k + 1) τ1 σ1 → G (ce + 3) (sl + 103) (wC g A1 τ1 (wR g r σ1 [])) (lL b A1 r iv) 1384 []) : G ce sl (wC g A τ (wR g r σ [])) (lL b A r iv) 1276 [] := by
  have hG := hL.toG
  obtain ⟨v, τ1, σ1, q1, q2, hI⟩ := hag k τ σ hk hInv
  refine g_aload_n hG dL_law_1276 rfl ?_
  refine g_cV hG dL_law_1277 (c_N_T_image q1) b_X11_image v_L_150 rfl (eT g A _ _) rfl ⟨Nat.le_of_ble_eq_true rfl, Nat.le_of_ble_eq_true rfl⟩ ⟨rfl, rfl⟩ ⟨by show ce ≤ 600000; omega, by show sl ≤ 7302250; omega⟩ _ rfl (Nat.le_of_ble_eq_true rfl) ?_
  refine g_perm hG (wperm g A τ1 r σ) ?_
  refine g_aload_n hG dL_law_1280 rfl ?_
  refine g_cV hG dL_law_1281 (c_M_image q2) b_X12_image v_L_153 rfl (k := 0) rfl rfl ⟨Nat.le_of_ble_eq_true rfl, Nat.le_of_ble_eq_true rfl⟩ ⟨rfl, rfl⟩ ⟨by show ce ≤ 600000; omega, by show sl ≤ 7302250; omega⟩ _ rfl (Nat.le_of_ble_eq_true rfl) ?_
  refine g_perm hG (wperm g A τ1 r σ1).symm ?_
  refine g_icmp_eq (tgt := 1384) hG dL_law_1284 rfl (fun _ => ?_) (fun q => absurd rfl q)
  refine g_widen hG (k := ce + 3) (n := sl + 103) (by omega) (by omega) ?_
  exact next A τ1 σ1 rfl hI
set_option maxRecDepth 100000 in
set_option maxHeartbeats 4000000 in
theorem lc_33 {g : GP} {l : Launch} {b Ln : Nat} {xs : Nat → Int32} {nm : String} {G : GT} {ce sl : Nat} {A : Nat → Nat → Nat} {r : Nat → Nat} {τ : CS} {σ : RS} {iv : Int32} {k : Nat} {Inv : Nat → CS → RS → Prop} (hL : IsL g l b Ln xs nm G) (hin : ∀ j : Int32, 0 < j → j < 6 → inb (iv + j) Ln = true) (hce : ce + 3 ≤ 600000) (hsl : sl + 103 ≤ 7302250) (hag : Agree Inv (N_T_restore ) (M_restore )) (hk : k < 600) (hInv : Inv k τ σ) (next : ∀ (A1 : Nat → Nat → Nat) (τ1 : CS) (σ1 : RS), A1 5 99 = A 5 99 → Inv (k + 1) τ1 σ1 → G (ce + 3) (sl + 103) (wC g A1 τ1 (wR g r σ1 [])) (lL b A1 r iv) 1384 []) : G ce sl (wC g A τ (wR g r σ [])) (lL b A r iv) 1289 [] := by
  have hG := hL.toG
  obtain ⟨v, τ1, σ1, q1, q2, hI⟩ := hag k τ σ hk hInv
  refine g_aload_n hG dL_law_1289 rfl ?_
  refine g_cV hG dL_law_1290 (c_N_T_restore q1) b_X11_restore v_L_154 rfl (eT g A _ _) rfl ⟨Nat.le_of_ble_eq_true rfl, Nat.le_of_ble_eq_true rfl⟩ ⟨rfl, rfl⟩ ⟨by show ce ≤ 600000; omega, by show sl ≤ 7302250; omega⟩ _ rfl (Nat.le_of_ble_eq_true rfl) ?_
  refine g_perm hG (wperm g A τ1 r σ) ?_
  refine g_aload_n hG dL_law_1293 rfl ?_
  refine g_cV hG dL_law_1294 (c_M_restore q2) b_X12_restore v_L_157 rfl (k := 0) rfl rfl ⟨Nat.le_of_ble_eq_true rfl, Nat.le_of_ble_eq_true rfl⟩ ⟨rfl, rfl⟩ ⟨by show ce ≤ 600000; omega, by show sl ≤ 7302250; omega⟩ _ rfl (Nat.le_of_ble_eq_true rfl) ?_
  refine g_perm hG (wperm g A τ1 r σ1).symm ?_
  refine g_icmp_eq (tgt := 1384) hG dL_law_1297 rfl (fun _ => ?_) (fun q => absurd rfl q)
  refine g_widen hG (k := ce + 3) (n := sl + 103) (by omega) (by omega) ?_
  exact next A τ1 σ1 rfl hI
set_option maxRecDepth 100000 in
set_option maxHeartbeats 4000000 in
theorem lc_34 {g : GP} {l : Launch} {b Ln : Nat} {xs : Nat → Int32} {nm : String} {G : GT} {ce sl : Nat} {A : Nat → Nat → Nat} {r : Nat → Nat} {τ : CS} {σ : RS} {iv : Int32} {k : Nat} {Inv : Nat → CS → RS → Prop} (hL : IsL g l b Ln xs nm G) (hin : ∀ j : Int32, 0 < j → j < 6 → inb (iv + j) Ln = true) (hce : ce + 3 ≤ 600000) (hsl : sl + 103 ≤ 7302250) (hag : ∀ a0 : Int32, Agree Inv (N_T_tell a0) (M_tell a0)) (hk : k < 600) (hInv : Inv k τ σ) (next : ∀ (A1 : Nat → Nat → Nat) (τ1 : CS) (σ1 : RS), A1 5 99 = A 5 99 → Inv (k + 1) τ1 σ1 → G (ce + 3) (sl + 103) (wC g A1 τ1 (wR g r σ1 [])) (lL b A1 r iv) 1384 []) : G ce sl (wC g A τ (wR g r σ [])) (lL b A r iv) 1302 [] := by
  have hG := hL.toG
  obtain ⟨v, τ1, σ1, q1, q2, hI⟩ := hag (xs (ix (iv + 1))) k τ σ hk hInv
  refine g_aload_n hG dL_law_1302 rfl ?_
  refine g_aload_n hG dL_law_1303 rfl ?_
  refine g_iload_n hG dL_law_1304 rfl ?_
  refine g_iconstv hG dL_law_1305 ki_1 ?_
  refine g_iadd hG dL_law_1306 ?_
  refine l_sld hL dL_law_1307 (hin 1 (by decide) (by decide)) ?_
  refine g_cV hG dL_law_1308 (c_N_T_tell q1) b_X11_tell v_L_158 rfl (eT g A _ _) rfl ⟨Nat.le_of_ble_eq_true rfl, Nat.le_of_ble_eq_true rfl⟩ ⟨rfl, rfl⟩ ⟨by show ce ≤ 600000; omega, by show sl ≤ 7302250; omega⟩ _ rfl (Nat.le_of_ble_eq_true rfl) ?_
  refine g_perm hG (wperm g A τ1 r σ) ?_
  refine g_aload_n hG dL_law_1311 rfl ?_
  refine g_aload_n hG dL_law_1312 rfl ?_
  refine g_iload_n hG dL_law_1313 rfl ?_
  refine g_iconstv hG dL_law_1314 ki_1 ?_
  refine g_iadd hG dL_law_1315 ?_
  refine l_sld hL dL_law_1316 (hin 1 (by decide) (by decide)) ?_
  refine g_cV hG dL_law_1317 (c_M_tell q2) b_X12_tell v_L_161 rfl (k := 0) rfl rfl ⟨Nat.le_of_ble_eq_true rfl, Nat.le_of_ble_eq_true rfl⟩ ⟨rfl, rfl⟩ ⟨by show ce ≤ 600000; omega, by show sl ≤ 7302250; omega⟩ _ rfl (Nat.le_of_ble_eq_true rfl) ?_
  refine g_perm hG (wperm g A τ1 r σ1).symm ?_
  refine g_icmp_eq (tgt := 1384) hG dL_law_1320 rfl (fun _ => ?_) (fun q => absurd rfl q)
  refine g_widen hG (k := ce + 3) (n := sl + 103) (by omega) (by omega) ?_
  exact next A τ1 σ1 rfl hI
set_option maxRecDepth 100000 in
set_option maxHeartbeats 4000000 in
theorem lc_35 {g : GP} {l : Launch} {b Ln : Nat} {xs : Nat → Int32} {nm : String} {G : GT} {ce sl : Nat} {A : Nat → Nat → Nat} {r : Nat → Nat} {τ : CS} {σ : RS} {iv : Int32} {k : Nat} {Inv : Nat → CS → RS → Prop} (hL : IsL g l b Ln xs nm G) (hin : ∀ j : Int32, 0 < j → j < 6 → inb (iv + j) Ln = true) (hce : ce + 3 ≤ 600000) (hsl : sl + 103 ≤ 7302250) (hag : Agree Inv (N_T_check ) (M_check )) (hk : k < 600) (hInv : Inv k τ σ) (next : ∀ (A1 : Nat → Nat → Nat) (τ1 : CS) (σ1 : RS), A1 5 99 = A 5 99 → Inv (k + 1) τ1 σ1 → G (ce + 3) (sl + 103) (wC g A1 τ1 (wR g r σ1 [])) (lL b A1 r iv) 1384 []) : G ce sl (wC g A τ (wR g r σ [])) (lL b A r iv) 1325 [] := by
  have hG := hL.toG
  obtain ⟨v, τ1, σ1, q1, q2, hI⟩ := hag k τ σ hk hInv
  refine g_aload_n hG dL_law_1325 rfl ?_
  refine g_cV hG dL_law_1326 (c_N_T_check q1) b_X11_check v_L_162 rfl (eT g A _ _) rfl ⟨Nat.le_of_ble_eq_true rfl, Nat.le_of_ble_eq_true rfl⟩ ⟨rfl, rfl⟩ ⟨by show ce ≤ 600000; omega, by show sl ≤ 7302250; omega⟩ _ rfl (Nat.le_of_ble_eq_true rfl) ?_
  refine g_perm hG (wperm g A τ1 r σ) ?_
  refine g_aload_n hG dL_law_1329 rfl ?_
  refine g_cV hG dL_law_1330 (c_M_check q2) b_X12_check v_L_165 rfl (k := 0) rfl rfl ⟨Nat.le_of_ble_eq_true rfl, Nat.le_of_ble_eq_true rfl⟩ ⟨rfl, rfl⟩ ⟨by show ce ≤ 600000; omega, by show sl ≤ 7302250; omega⟩ _ rfl (Nat.le_of_ble_eq_true rfl) ?_
  refine g_perm hG (wperm g A τ1 r σ1).symm ?_
  refine g_icmp_eq (tgt := 1384) hG dL_law_1333 rfl (fun _ => ?_) (fun q => absurd rfl q)
  refine g_widen hG (k := ce + 3) (n := sl + 103) (by omega) (by omega) ?_
  exact next A τ1 σ1 rfl hI
set_option maxRecDepth 100000 in
set_option maxHeartbeats 4000000 in
theorem lc_36 {g : GP} {l : Launch} {b Ln : Nat} {xs : Nat → Int32} {nm : String} {G : GT} {ce sl : Nat} {A : Nat → Nat → Nat} {r : Nat → Nat} {τ : CS} {σ : RS} {iv : Int32} {k : Nat} {Inv : Nat → CS → RS → Prop} (hL : IsL g l b Ln xs nm G) (hin : ∀ j : Int32, 0 < j → j < 6 → inb (iv + j) Ln = true) (hce : ce + 3 ≤ 600000) (hsl : sl + 103 ≤ 7302250) (hag : ∀ a0 : Int32, Agree Inv (N_T_count a0) (M_count a0)) (hk : k < 600) (hInv : Inv k τ σ) (next : ∀ (A1 : Nat → Nat → Nat) (τ1 : CS) (σ1 : RS), A1 5 99 = A 5 99 → Inv (k + 1) τ1 σ1 → G (ce + 3) (sl + 103) (wC g A1 τ1 (wR g r σ1 [])) (lL b A1 r iv) 1384 []) : G ce sl (wC g A τ (wR g r σ [])) (lL b A r iv) 1338 [] := by
  have hG := hL.toG
  obtain ⟨v, τ1, σ1, q1, q2, hI⟩ := hag (xs (ix (iv + 1))) k τ σ hk hInv
  refine g_aload_n hG dL_law_1338 rfl ?_
  refine g_aload_n hG dL_law_1339 rfl ?_
  refine g_iload_n hG dL_law_1340 rfl ?_
  refine g_iconstv hG dL_law_1341 ki_1 ?_
  refine g_iadd hG dL_law_1342 ?_
  refine l_sld hL dL_law_1343 (hin 1 (by decide) (by decide)) ?_
  refine g_cV hG dL_law_1344 (c_N_T_count q1) b_X11_count v_L_166 rfl (eT g A _ _) rfl ⟨Nat.le_of_ble_eq_true rfl, Nat.le_of_ble_eq_true rfl⟩ ⟨rfl, rfl⟩ ⟨by show ce ≤ 600000; omega, by show sl ≤ 7302250; omega⟩ _ rfl (Nat.le_of_ble_eq_true rfl) ?_
  refine g_perm hG (wperm g A τ1 r σ) ?_
  refine g_aload_n hG dL_law_1347 rfl ?_
  refine g_aload_n hG dL_law_1348 rfl ?_
  refine g_iload_n hG dL_law_1349 rfl ?_
  refine g_iconstv hG dL_law_1350 ki_1 ?_
  refine g_iadd hG dL_law_1351 ?_
  refine l_sld hL dL_law_1352 (hin 1 (by decide) (by decide)) ?_
  refine g_cV hG dL_law_1353 (c_M_count q2) b_X12_count v_L_169 rfl (k := 0) rfl rfl ⟨Nat.le_of_ble_eq_true rfl, Nat.le_of_ble_eq_true rfl⟩ ⟨rfl, rfl⟩ ⟨by show ce ≤ 600000; omega, by show sl ≤ 7302250; omega⟩ _ rfl (Nat.le_of_ble_eq_true rfl) ?_
  refine g_perm hG (wperm g A τ1 r σ1).symm ?_
  refine g_icmp_eq (tgt := 1384) hG dL_law_1356 rfl (fun _ => ?_) (fun q => absurd rfl q)
  refine g_widen hG (k := ce + 3) (n := sl + 103) (by omega) (by omega) ?_
  exact next A τ1 σ1 rfl hI
set_option maxRecDepth 100000 in
set_option maxHeartbeats 4000000 in
theorem lc_37 {g : GP} {l : Launch} {b Ln : Nat} {xs : Nat → Int32} {nm : String} {G : GT} {ce sl : Nat} {A : Nat → Nat → Nat} {r : Nat → Nat} {τ : CS} {σ : RS} {iv : Int32} {k : Nat} {Inv : Nat → CS → RS → Prop} (hL : IsL g l b Ln xs nm G) (hin : ∀ j : Int32, 0 < j → j < 6 → inb (iv + j) Ln = true) (hce : ce + 3 ≤ 600000) (hsl : sl + 103 ≤ 7302250) (hag : ∀ a0 : Int32, Agree Inv (N_T_told a0) (M_told a0)) (hk : k < 600) (hInv : Inv k τ σ) (next : ∀ (A1 : Nat → Nat → Nat) (τ1 : CS) (σ1 : RS), A1 5 99 = A 5 99 → Inv (k + 1) τ1 σ1 → G (ce + 3) (sl + 103) (wC g A1 τ1 (wR g r σ1 [])) (lL b A1 r iv) 1384 []) : G ce sl (wC g A τ (wR g r σ [])) (lL b A r iv) 1361 [] := by
  have hG := hL.toG
  obtain ⟨v, τ1, σ1, q1, q2, hI⟩ := hag (xs (ix (iv + 1))) k τ σ hk hInv
  refine g_aload_n hG dL_law_1361 rfl ?_
  refine g_aload_n hG dL_law_1362 rfl ?_
  refine g_iload_n hG dL_law_1363 rfl ?_
  refine g_iconstv hG dL_law_1364 ki_1 ?_
  refine g_iadd hG dL_law_1365 ?_
  refine l_sld hL dL_law_1366 (hin 1 (by decide) (by decide)) ?_
  refine g_cV hG dL_law_1367 (c_N_T_told q1) b_X11_told v_L_170 rfl (eT g A _ _) rfl ⟨Nat.le_of_ble_eq_true rfl, Nat.le_of_ble_eq_true rfl⟩ ⟨rfl, rfl⟩ ⟨by show ce ≤ 600000; omega, by show sl ≤ 7302250; omega⟩ _ rfl (Nat.le_of_ble_eq_true rfl) ?_
  refine g_perm hG (wperm g A τ1 r σ) ?_
  refine g_aload_n hG dL_law_1370 rfl ?_
  refine g_aload_n hG dL_law_1371 rfl ?_
  refine g_iload_n hG dL_law_1372 rfl ?_
  refine g_iconstv hG dL_law_1373 ki_1 ?_
  refine g_iadd hG dL_law_1374 ?_
  refine l_sld hL dL_law_1375 (hin 1 (by decide) (by decide)) ?_
  refine g_cV hG dL_law_1376 (c_M_told q2) b_X12_told v_L_173 rfl (k := 0) rfl rfl ⟨Nat.le_of_ble_eq_true rfl, Nat.le_of_ble_eq_true rfl⟩ ⟨rfl, rfl⟩ ⟨by show ce ≤ 600000; omega, by show sl ≤ 7302250; omega⟩ _ rfl (Nat.le_of_ble_eq_true rfl) ?_
  refine g_perm hG (wperm g A τ1 r σ1).symm ?_
  refine g_icmp_eq (tgt := 1384) hG dL_law_1379 rfl (fun _ => ?_) (fun q => absurd rfl q)
  refine g_widen hG (k := ce + 3) (n := sl + 103) (by omega) (by omega) ?_
  exact next A τ1 σ1 rfl hI
