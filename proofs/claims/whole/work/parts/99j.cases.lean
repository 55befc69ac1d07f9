section LWC
variable {E : lw_E} {kc ks : Nat} {Γ : List ms_Sh} {M : ms_M} {S : pw_S}
set_option maxRecDepth 100000
set_option maxHeartbeats 4000000
theorem lw_c0 (hE : lw_C E) {i : Nat} (hi : i + 7 ≤ E.L) (hG : pw_G Γ) (hRC : pw_RC M S) (hRM : pw_RM M S) (hO : pw_SO S) (K : lw_next E kc ks i) : lw_W E (kc + 2) (ks + 12) 164 (lw_ls i) [] Γ M := by
  refine lw_less (kc' := kc) (ks' := ks) (by omega) (by omega) ?_
  refine lw_ald hE (n := 1) (a := 0) (by omega) (List.mem_of_getElem? (i := 3) rfl) rfl dL_law_164 ?_
  refine lw_elm hE (i := i) (k := 1) (q := 169) (List.mem_of_getElem? (i := 0) rfl) (by omega) dL_law_165 dL_law_166 (Or.inl ⟨dL_law_168, rfl, rfl⟩) dL_law_169 dL_law_170 ?_
  refine lw_elm hE (i := i) (k := 2) (q := 175) (List.mem_of_getElem? (i := 0) rfl) (by omega) dL_law_171 dL_law_172 (Or.inl ⟨dL_law_174, rfl, rfl⟩) dL_law_175 dL_law_176 ?_
  refine lw_elm hE (i := i) (k := 3) (q := 181) (List.mem_of_getElem? (i := 0) rfl) (by omega) dL_law_177 dL_law_178 (Or.inl ⟨dL_law_180, rfl, rfl⟩) dL_law_181 dL_law_182 ?_
  refine lw_elm hE (i := i) (k := 4) (q := 187) (List.mem_of_getElem? (i := 0) rfl) (by omega) dL_law_183 dL_law_184 (Or.inl ⟨dL_law_186, rfl, rfl⟩) dL_law_187 dL_law_188 ?_
  refine lw_elm hE (i := i) (k := 5) (q := 193) (List.mem_of_getElem? (i := 0) rfl) (by omega) dL_law_189 dL_law_190 (Or.inl ⟨dL_law_192, rfl, rfl⟩) dL_law_193 dL_law_194 ?_
  refine lw_cv hE (y' := mX11_feed) (ci := 11) (r := (RX11, TX11, 17)) (n := 5) (nb := 0) (av := [lw_x E i 1, lw_x E i 2, lw_x E i 3, lw_x E i 4, lw_x E i 5]) (st' := []) (kc' := kc) (ks' := ks) rfl rfl kw_390 kw_391 kw_392 kw_76 kw_393 ⟨by decide +kernel, by decide +kernel, by decide +kernel⟩ (by decide) dL_law_195 (lw_cell0 hG) rfl rfl rfl (Nat.le_of_ble_eq_true rfl) (by omega) (by omega) (c_feed hG hRC hO (fun M1 hR1 hH1 => ⟨lw_t0, ?_⟩))
  have hRM1 := pw_RM_hi hRM hH1
  refine lw_ald hE (n := 2) (a := 103) (by omega) (List.mem_of_getElem? (i := 2) rfl) rfl dL_law_198 ?_
  refine lw_elm hE (i := i) (k := 1) (q := 203) (List.mem_of_getElem? (i := 0) rfl) (by omega) dL_law_199 dL_law_200 (Or.inl ⟨dL_law_202, rfl, rfl⟩) dL_law_203 dL_law_204 ?_
  refine lw_elm hE (i := i) (k := 2) (q := 209) (List.mem_of_getElem? (i := 0) rfl) (by omega) dL_law_205 dL_law_206 (Or.inl ⟨dL_law_208, rfl, rfl⟩) dL_law_209 dL_law_210 ?_
  refine lw_elm hE (i := i) (k := 3) (q := 215) (List.mem_of_getElem? (i := 0) rfl) (by omega) dL_law_211 dL_law_212 (Or.inl ⟨dL_law_214, rfl, rfl⟩) dL_law_215 dL_law_216 ?_
  refine lw_elm hE (i := i) (k := 4) (q := 221) (List.mem_of_getElem? (i := 0) rfl) (by omega) dL_law_217 dL_law_218 (Or.inl ⟨dL_law_220, rfl, rfl⟩) dL_law_221 dL_law_222 ?_
  refine lw_elm hE (i := i) (k := 5) (q := 227) (List.mem_of_getElem? (i := 0) rfl) (by omega) dL_law_223 dL_law_224 (Or.inl ⟨dL_law_226, rfl, rfl⟩) dL_law_227 dL_law_228 ?_
  refine lw_cv hE (y' := mX12_feed) (ci := 12) (r := (RX12, TX12, 45)) (n := 5) (nb := 103) (av := [lw_x E i 1, lw_x E i 2, lw_x E i 3, lw_x E i 4, lw_x E i 5]) (st' := [(0, _)]) (kc' := kc) (ks' := ks) rfl rfl kw_908 kw_909 kw_910 kw_88 kw_911 ⟨by decide +kernel, by decide +kernel, by decide +kernel⟩ (by decide) dL_law_229 (lw_cell103 hG) rfl rfl rfl (Nat.le_of_ble_eq_true rfl) (by omega) (by omega) (m_feed hG hRM1 hO (fun M2 hR2 hL2 => ⟨lw_t0, ?_⟩))
  refine lw_ceq hE (tgt := 1199) dL_law_232 rfl rfl ?_
  exact K Γ M2 _ hG (pw_RC_lo hR1 hL2) hR2 (pw_afeed_ok hO)
theorem lw_c1 (hE : lw_C E) {i : Nat} (hi : i + 7 ≤ E.L) (hG : pw_G Γ) (hRC : pw_RC M S) (hRM : pw_RM M S) (hO : pw_SO S) (K : lw_next E kc ks i) : lw_W E (kc + 2) (ks + 12) 237 (lw_ls i) [] Γ M := by
  refine lw_less (kc' := kc) (ks' := ks) (by omega) (by omega) ?_
  refine lw_ald hE (n := 1) (a := 0) (by omega) (List.mem_of_getElem? (i := 3) rfl) rfl dL_law_237 ?_
  refine lw_elm hE (i := i) (k := 1) (q := 242) (List.mem_of_getElem? (i := 0) rfl) (by omega) dL_law_238 dL_law_239 (Or.inl ⟨dL_law_241, rfl, rfl⟩) dL_law_242 dL_law_243 ?_
  refine lw_cv hE (y' := mX11_text) (ci := 11) (r := (RX11, TX11, 17)) (n := 1) (nb := 0) (av := [lw_x E i 1]) (st' := []) (kc' := kc) (ks' := ks) rfl rfl kw_398 kw_399 kw_400 kw_76 kw_401 ⟨by decide +kernel, by decide +kernel, by decide +kernel⟩ (by decide) dL_law_244 (lw_cell0 hG) rfl rfl rfl (Nat.le_of_ble_eq_true rfl) (by omega) (by omega) (c_text hG hRC hO (fun M1 hR1 hH1 => ⟨lw_t0, ?_⟩))
  have hRM1 := pw_RM_hi hRM hH1
  refine lw_ald hE (n := 2) (a := 103) (by omega) (List.mem_of_getElem? (i := 2) rfl) rfl dL_law_247 ?_
  refine lw_elm hE (i := i) (k := 1) (q := 252) (List.mem_of_getElem? (i := 0) rfl) (by omega) dL_law_248 dL_law_249 (Or.inl ⟨dL_law_251, rfl, rfl⟩) dL_law_252 dL_law_253 ?_
  refine lw_cv hE (y' := mX12_text) (ci := 12) (r := (RX12, TX12, 45)) (n := 1) (nb := 103) (av := [lw_x E i 1]) (st' := [(0, _)]) (kc' := kc) (ks' := ks) rfl rfl kw_1058 kw_1059 kw_1060 kw_88 kw_1061 ⟨by decide +kernel, by decide +kernel, by decide +kernel⟩ (by decide) dL_law_254 (lw_cell103 hG) rfl rfl rfl (Nat.le_of_ble_eq_true rfl) (by omega) (by omega) (m_text hG hRM1 hO (fun M2 hR2 hL2 => ⟨lw_t0, ?_⟩))
  refine lw_ceq hE (tgt := 1199) dL_law_257 rfl rfl ?_
  exact K Γ M2 _ hG (pw_RC_lo hR1 hL2) hR2 (pw_atext_ok hO)
theorem lw_c2 (hE : lw_C E) {i : Nat} (hi : i + 7 ≤ E.L) (hG : pw_G Γ) (hRC : pw_RC M S) (hRM : pw_RM M S) (hO : pw_SO S) (K : lw_next E kc ks i) : lw_W E (kc + 2) (ks + 12) 262 (lw_ls i) [] Γ M := by
  refine lw_less (kc' := kc) (ks' := ks) (by omega) (by omega) ?_
  refine lw_ald hE (n := 1) (a := 0) (by omega) (List.mem_of_getElem? (i := 3) rfl) rfl dL_law_262 ?_
  refine lw_elm hE (i := i) (k := 1) (q := 267) (List.mem_of_getElem? (i := 0) rfl) (by omega) dL_law_263 dL_law_264 (Or.inl ⟨dL_law_266, rfl, rfl⟩) dL_law_267 dL_law_268 ?_
  refine lw_cv hE (y' := mX11_count) (ci := 11) (r := (RX11, TX11, 17)) (n := 1) (nb := 0) (av := [lw_x E i 1]) (st' := []) (kc' := kc) (ks' := ks) rfl rfl kw_539 kw_540 kw_541 kw_76 kw_542 ⟨by decide +kernel, by decide +kernel, by decide +kernel⟩ (by decide) dL_law_269 (lw_cell0 hG) rfl rfl rfl (Nat.le_of_ble_eq_true rfl) (by omega) (by omega) (c_count hG hRC hO (fun M1 hR1 hH1 => ⟨lw_t0, ?_⟩))
  have hRM1 := pw_RM_hi hRM hH1
  refine lw_ald hE (n := 2) (a := 103) (by omega) (List.mem_of_getElem? (i := 2) rfl) rfl dL_law_272 ?_
  refine lw_elm hE (i := i) (k := 1) (q := 277) (List.mem_of_getElem? (i := 0) rfl) (by omega) dL_law_273 dL_law_274 (Or.inl ⟨dL_law_276, rfl, rfl⟩) dL_law_277 dL_law_278 ?_
  refine lw_cv hE (y' := mX12_count) (ci := 12) (r := (RX12, TX12, 45)) (n := 1) (nb := 103) (av := [lw_x E i 1]) (st' := [(0, _)]) (kc' := kc) (ks' := ks) rfl rfl kw_1168 kw_1169 kw_1170 kw_88 kw_1171 ⟨by decide +kernel, by decide +kernel, by decide +kernel⟩ (by decide) dL_law_279 (lw_cell103 hG) rfl rfl rfl (Nat.le_of_ble_eq_true rfl) (by omega) (by omega) (m_count hG hRM1 hO (fun M2 hR2 hL2 => ⟨lw_t0, ?_⟩))
  refine lw_ceq hE (tgt := 1199) dL_law_282 rfl rfl ?_
  exact K Γ M2 _ hG (pw_RC_lo hR1 hL2) hR2 (hO)
theorem lw_c4 (hE : lw_C E) {i : Nat} (hi : i + 7 ≤ E.L) (hG : pw_G Γ) (hRC : pw_RC M S) (hRM : pw_RM M S) (hO : pw_SO S) (K : lw_next E kc ks i) : lw_W E (kc + 2) (ks + 12) 355 (lw_ls i) [] Γ M := by
  refine lw_less (kc' := kc) (ks' := ks) (by omega) (by omega) ?_
  refine lw_ald hE (n := 1) (a := 0) (by omega) (List.mem_of_getElem? (i := 3) rfl) rfl dL_law_355 ?_
  refine lw_elm hE (i := i) (k := 1) (q := 360) (List.mem_of_getElem? (i := 0) rfl) (by omega) dL_law_356 dL_law_357 (Or.inl ⟨dL_law_359, rfl, rfl⟩) dL_law_360 dL_law_361 ?_
  refine lw_elm hE (i := i) (k := 2) (q := 366) (List.mem_of_getElem? (i := 0) rfl) (by omega) dL_law_362 dL_law_363 (Or.inl ⟨dL_law_365, rfl, rfl⟩) dL_law_366 dL_law_367 ?_
  refine lw_cv hE (y' := mX11_exponent) (ci := 11) (r := (RX11, TX11, 17)) (n := 2) (nb := 0) (av := [lw_x E i 1, lw_x E i 2]) (st' := []) (kc' := kc) (ks' := ks) rfl rfl kw_580 kw_581 kw_582 kw_76 kw_583 ⟨by decide +kernel, by decide +kernel, by decide +kernel⟩ (by decide) dL_law_368 (lw_cell0 hG) rfl rfl rfl (Nat.le_of_ble_eq_true rfl) (by omega) (by omega) (c_exponent hG hRC hO (fun M1 hR1 hH1 => ⟨lw_t1, ?_⟩))
  have hRM1 := pw_RM_hi hRM hH1
  refine lw_ald hE (n := 2) (a := 103) (by omega) (List.mem_of_getElem? (i := 2) rfl) rfl dL_law_371 ?_
  refine lw_elm hE (i := i) (k := 1) (q := 376) (List.mem_of_getElem? (i := 0) rfl) (by omega) dL_law_372 dL_law_373 (Or.inl ⟨dL_law_375, rfl, rfl⟩) dL_law_376 dL_law_377 ?_
  refine lw_elm hE (i := i) (k := 2) (q := 382) (List.mem_of_getElem? (i := 0) rfl) (by omega) dL_law_378 dL_law_379 (Or.inl ⟨dL_law_381, rfl, rfl⟩) dL_law_382 dL_law_383 ?_
  refine lw_cv hE (y' := mX12_exponent) (ci := 12) (r := (RX12, TX12, 45)) (n := 2) (nb := 103) (av := [lw_x E i 1, lw_x E i 2]) (st' := [(1, _)]) (kc' := kc) (ks' := ks) rfl rfl kw_1206 kw_1207 kw_1208 kw_88 kw_1209 ⟨by decide +kernel, by decide +kernel, by decide +kernel⟩ (by decide) dL_law_384 (lw_cell103 hG) rfl rfl rfl (Nat.le_of_ble_eq_true rfl) (by omega) (by omega) (m_exponent hG hRM1 hO (fun M2 hR2 hL2 => ⟨lw_t1, ?_⟩))
  refine lw_leq hE (tgt := 1199) dL_law_387 dL_law_388 rfl rfl ?_
  exact K Γ M2 _ hG (pw_RC_lo hR1 hL2) hR2 (hO)
theorem lw_c5 (hE : lw_C E) {i : Nat} (hi : i + 7 ≤ E.L) (hG : pw_G Γ) (hRC : pw_RC M S) (hRM : pw_RM M S) (hO : pw_SO S) (K : lw_next E kc ks i) : lw_W E (kc + 2) (ks + 12) 393 (lw_ls i) [] Γ M := by
  refine lw_less (kc' := kc) (ks' := ks) (by omega) (by omega) ?_
  refine lw_ald hE (n := 1) (a := 0) (by omega) (List.mem_of_getElem? (i := 3) rfl) rfl dL_law_393 ?_
  refine lw_elm hE (i := i) (k := 1) (q := 398) (List.mem_of_getElem? (i := 0) rfl) (by omega) dL_law_394 dL_law_395 (Or.inl ⟨dL_law_397, rfl, rfl⟩) dL_law_398 dL_law_399 ?_
  refine lw_cv hE (y' := mX11_wanted) (ci := 11) (r := (RX11, TX11, 17)) (n := 1) (nb := 0) (av := [lw_x E i 1]) (st' := []) (kc' := kc) (ks' := ks) rfl rfl kw_598 kw_599 kw_600 kw_76 kw_601 ⟨by decide +kernel, by decide +kernel, by decide +kernel⟩ (by decide) dL_law_400 (lw_cell0 hG) rfl rfl rfl (Nat.le_of_ble_eq_true rfl) (by omega) (by omega) (c_wanted hG hRC hO ⟨lw_t0, ?_⟩)
  have hRM1 := hRM
  have hR1 := hRC
  refine lw_ald hE (n := 2) (a := 103) (by omega) (List.mem_of_getElem? (i := 2) rfl) rfl dL_law_403 ?_
  refine lw_elm hE (i := i) (k := 1) (q := 408) (List.mem_of_getElem? (i := 0) rfl) (by omega) dL_law_404 dL_law_405 (Or.inl ⟨dL_law_407, rfl, rfl⟩) dL_law_408 dL_law_409 ?_
  refine lw_cv hE (y' := mX12_wanted) (ci := 12) (r := (RX12, TX12, 45)) (n := 1) (nb := 103) (av := [lw_x E i 1]) (st' := [(0, _)]) (kc' := kc) (ks' := ks) rfl rfl kw_1211 kw_1212 kw_1213 kw_88 kw_1214 ⟨by decide +kernel, by decide +kernel, by decide +kernel⟩ (by decide) dL_law_410 (lw_cell103 hG) rfl rfl rfl (Nat.le_of_ble_eq_true rfl) (by omega) (by omega) (m_wanted hG hRM1 hO (fun M2 hR2 hL2 => ⟨lw_t0, ?_⟩))
  refine lw_ceq hE (tgt := 1199) dL_law_413 rfl rfl ?_
  exact K Γ M2 _ hG (pw_RC_lo hR1 hL2) hR2 (hO)
theorem lw_c6 (hE : lw_C E) {i : Nat} (hi : i + 7 ≤ E.L) (hG : pw_G Γ) (hRC : pw_RC M S) (hRM : pw_RM M S) (hO : pw_SO S) (K : lw_next E kc ks i) : lw_W E (kc + 2) (ks + 12) 418 (lw_ls i) [] Γ M := by
  refine lw_less (kc' := kc) (ks' := ks) (by omega) (by omega) ?_
  refine lw_ald hE (n := 1) (a := 0) (by omega) (List.mem_of_getElem? (i := 3) rfl) rfl dL_law_418 ?_
  refine lw_elm hE (i := i) (k := 1) (q := 423) (List.mem_of_getElem? (i := 0) rfl) (by omega) dL_law_419 dL_law_420 (Or.inl ⟨dL_law_422, rfl, rfl⟩) dL_law_423 dL_law_424 ?_
  refine lw_elm hE (i := i) (k := 2) (q := 429) (List.mem_of_getElem? (i := 0) rfl) (by omega) dL_law_425 dL_law_426 (Or.inl ⟨dL_law_428, rfl, rfl⟩) dL_law_429 dL_law_430 ?_
  refine lw_elm hE (i := i) (k := 3) (q := 435) (List.mem_of_getElem? (i := 0) rfl) (by omega) dL_law_431 dL_law_432 (Or.inl ⟨dL_law_434, rfl, rfl⟩) dL_law_435 dL_law_436 ?_
  refine lw_elm hE (i := i) (k := 4) (q := 441) (List.mem_of_getElem? (i := 0) rfl) (by omega) dL_law_437 dL_law_438 (Or.inl ⟨dL_law_440, rfl, rfl⟩) dL_law_441 dL_law_442 ?_
  refine lw_elm hE (i := i) (k := 5) (q := 447) (List.mem_of_getElem? (i := 0) rfl) (by omega) dL_law_443 dL_law_444 (Or.inl ⟨dL_law_446, rfl, rfl⟩) dL_law_447 dL_law_448 ?_
  refine lw_elm hE (i := i) (k := 6) (q := 454) (List.mem_of_getElem? (i := 0) rfl) (by omega) dL_law_449 dL_law_450 (Or.inr ⟨dL_law_452, rfl, rfl⟩) dL_law_454 dL_law_455 ?_
  refine lw_cv hE (y' := mX11_run) (ci := 11) (r := (RX11, TX11, 17)) (n := 6) (nb := 0) (av := [lw_x E i 1, lw_x E i 2, lw_x E i 3, lw_x E i 4, lw_x E i 5, lw_x E i 6]) (st' := []) (kc' := kc) (ks' := ks) rfl rfl kw_602 kw_603 kw_604 kw_76 kw_605 ⟨by decide +kernel, by decide +kernel, by decide +kernel⟩ (by decide) dL_law_456 (lw_cell0 hG) rfl rfl rfl (Nat.le_of_ble_eq_true rfl) (by omega) (by omega) (c_run hG hRC hO (fun M1 hR1 hH1 => ⟨lw_t0, ?_⟩))
  have hRM1 := pw_RM_hi hRM hH1
  refine lw_ald hE (n := 2) (a := 103) (by omega) (List.mem_of_getElem? (i := 2) rfl) rfl dL_law_459 ?_
  refine lw_elm hE (i := i) (k := 1) (q := 464) (List.mem_of_getElem? (i := 0) rfl) (by omega) dL_law_460 dL_law_461 (Or.inl ⟨dL_law_463, rfl, rfl⟩) dL_law_464 dL_law_465 ?_
  refine lw_elm hE (i := i) (k := 2) (q := 470) (List.mem_of_getElem? (i := 0) rfl) (by omega) dL_law_466 dL_law_467 (Or.inl ⟨dL_law_469, rfl, rfl⟩) dL_law_470 dL_law_471 ?_
  refine lw_elm hE (i := i) (k := 3) (q := 476) (List.mem_of_getElem? (i := 0) rfl) (by omega) dL_law_472 dL_law_473 (Or.inl ⟨dL_law_475, rfl, rfl⟩) dL_law_476 dL_law_477 ?_
  refine lw_elm hE (i := i) (k := 4) (q := 482) (List.mem_of_getElem? (i := 0) rfl) (by omega) dL_law_478 dL_law_479 (Or.inl ⟨dL_law_481, rfl, rfl⟩) dL_law_482 dL_law_483 ?_
  refine lw_elm hE (i := i) (k := 5) (q := 488) (List.mem_of_getElem? (i := 0) rfl) (by omega) dL_law_484 dL_law_485 (Or.inl ⟨dL_law_487, rfl, rfl⟩) dL_law_488 dL_law_489 ?_
  refine lw_elm hE (i := i) (k := 6) (q := 495) (List.mem_of_getElem? (i := 0) rfl) (by omega) dL_law_490 dL_law_491 (Or.inr ⟨dL_law_493, rfl, rfl⟩) dL_law_495 dL_law_496 ?_
  refine lw_cv hE (y' := mX12_run) (ci := 12) (r := (RX12, TX12, 45)) (n := 6) (nb := 103) (av := [lw_x E i 1, lw_x E i 2, lw_x E i 3, lw_x E i 4, lw_x E i 5, lw_x E i 6]) (st' := [(0, _)]) (kc' := kc) (ks' := ks) rfl rfl kw_1215 kw_1216 kw_1217 kw_88 kw_1218 ⟨by decide +kernel, by decide +kernel, by decide +kernel⟩ (by decide) dL_law_497 (lw_cell103 hG) rfl rfl rfl (Nat.le_of_ble_eq_true rfl) (by omega) (by omega) (m_run hG hRM1 hO (fun M2 hR2 hL2 => ⟨lw_t0, ?_⟩))
  refine lw_ceq hE (tgt := 1199) dL_law_500 rfl rfl ?_
  exact K Γ M2 _ hG (pw_RC_lo hR1 hL2) hR2 (hO)
theorem lw_c7 (hE : lw_C E) {i : Nat} (hi : i + 7 ≤ E.L) (hG : pw_G Γ) (hRC : pw_RC M S) (hRM : pw_RM M S) (hO : pw_SO S) (K : lw_next E kc ks i) : lw_W E (kc + 2) (ks + 12) 505 (lw_ls i) [] Γ M := by
  refine lw_less (kc' := kc) (ks' := ks) (by omega) (by omega) ?_
  refine lw_ald hE (n := 1) (a := 0) (by omega) (List.mem_of_getElem? (i := 3) rfl) rfl dL_law_505 ?_
  refine lw_elm hE (i := i) (k := 1) (q := 510) (List.mem_of_getElem? (i := 0) rfl) (by omega) dL_law_506 dL_law_507 (Or.inl ⟨dL_law_509, rfl, rfl⟩) dL_law_510 dL_law_511 ?_
  refine lw_elm hE (i := i) (k := 2) (q := 516) (List.mem_of_getElem? (i := 0) rfl) (by omega) dL_law_512 dL_law_513 (Or.inl ⟨dL_law_515, rfl, rfl⟩) dL_law_516 dL_law_517 ?_
  refine lw_cv hE (y' := mX11_add) (ci := 11) (r := (RX11, TX11, 17)) (n := 2) (nb := 0) (av := [lw_x E i 1, lw_x E i 2]) (st' := []) (kc' := kc) (ks' := ks) rfl rfl kw_610 kw_611 kw_612 kw_76 kw_613 ⟨by decide +kernel, by decide +kernel, by decide +kernel⟩ (by decide) dL_law_518 (lw_cell0 hG) rfl rfl rfl (Nat.le_of_ble_eq_true rfl) (by omega) (by omega) (c_add hG hRC hO (fun M1 hR1 hH1 => ⟨lw_t0, ?_⟩))
  have hRM1 := pw_RM_hi hRM hH1
  refine lw_ald hE (n := 2) (a := 103) (by omega) (List.mem_of_getElem? (i := 2) rfl) rfl dL_law_521 ?_
  refine lw_elm hE (i := i) (k := 1) (q := 526) (List.mem_of_getElem? (i := 0) rfl) (by omega) dL_law_522 dL_law_523 (Or.inl ⟨dL_law_525, rfl, rfl⟩) dL_law_526 dL_law_527 ?_
  refine lw_elm hE (i := i) (k := 2) (q := 532) (List.mem_of_getElem? (i := 0) rfl) (by omega) dL_law_528 dL_law_529 (Or.inl ⟨dL_law_531, rfl, rfl⟩) dL_law_532 dL_law_533 ?_
  refine lw_cv hE (y' := mX12_add) (ci := 12) (r := (RX12, TX12, 45)) (n := 2) (nb := 103) (av := [lw_x E i 1, lw_x E i 2]) (st' := [(0, _)]) (kc' := kc) (ks' := ks) rfl rfl kw_1221 kw_1222 kw_1223 kw_88 kw_1224 ⟨by decide +kernel, by decide +kernel, by decide +kernel⟩ (by decide) dL_law_534 (lw_cell103 hG) rfl rfl rfl (Nat.le_of_ble_eq_true rfl) (by omega) (by omega) (m_add hG hRM1 hO (fun M2 hR2 hL2 => ⟨lw_t0, ?_⟩))
  refine lw_ceq hE (tgt := 1199) dL_law_537 rfl rfl ?_
  exact K Γ M2 _ hG (pw_RC_lo hR1 hL2) hR2 (pw_aadd_ok hO)
theorem lw_c8 (hE : lw_C E) {i : Nat} (hi : i + 7 ≤ E.L) (hG : pw_G Γ) (hRC : pw_RC M S) (hRM : pw_RM M S) (hO : pw_SO S) (K : lw_next E kc ks i) : lw_W E (kc + 2) (ks + 12) 542 (lw_ls i) [] Γ M := by
  refine lw_less (kc' := kc) (ks' := ks) (by omega) (by omega) ?_
  refine lw_ald hE (n := 1) (a := 0) (by omega) (List.mem_of_getElem? (i := 3) rfl) rfl dL_law_542 ?_
  refine lw_elm hE (i := i) (k := 1) (q := 547) (List.mem_of_getElem? (i := 0) rfl) (by omega) dL_law_543 dL_law_544 (Or.inl ⟨dL_law_546, rfl, rfl⟩) dL_law_547 dL_law_548 ?_
  refine lw_elm hE (i := i) (k := 2) (q := 553) (List.mem_of_getElem? (i := 0) rfl) (by omega) dL_law_549 dL_law_550 (Or.inl ⟨dL_law_552, rfl, rfl⟩) dL_law_553 dL_law_554 ?_
  refine lw_cv hE (y' := mX11_want) (ci := 11) (r := (RX11, TX11, 17)) (n := 2) (nb := 0) (av := [lw_x E i 1, lw_x E i 2]) (st' := []) (kc' := kc) (ks' := ks) rfl rfl kw_616 kw_617 kw_618 kw_76 kw_619 ⟨by decide +kernel, by decide +kernel, by decide +kernel⟩ (by decide) dL_law_555 (lw_cell0 hG) rfl rfl rfl (Nat.le_of_ble_eq_true rfl) (by omega) (by omega) (c_want hG hRC hO (fun M1 hR1 hH1 => ⟨lw_t0, ?_⟩))
  have hRM1 := pw_RM_hi hRM hH1
  refine lw_ald hE (n := 2) (a := 103) (by omega) (List.mem_of_getElem? (i := 2) rfl) rfl dL_law_558 ?_
  refine lw_elm hE (i := i) (k := 1) (q := 563) (List.mem_of_getElem? (i := 0) rfl) (by omega) dL_law_559 dL_law_560 (Or.inl ⟨dL_law_562, rfl, rfl⟩) dL_law_563 dL_law_564 ?_
  refine lw_elm hE (i := i) (k := 2) (q := 569) (List.mem_of_getElem? (i := 0) rfl) (by omega) dL_law_565 dL_law_566 (Or.inl ⟨dL_law_568, rfl, rfl⟩) dL_law_569 dL_law_570 ?_
  refine lw_cv hE (y' := mX12_want) (ci := 12) (r := (RX12, TX12, 45)) (n := 2) (nb := 103) (av := [lw_x E i 1, lw_x E i 2]) (st' := [(0, _)]) (kc' := kc) (ks' := ks) rfl rfl kw_1225 kw_1226 kw_1227 kw_88 kw_1228 ⟨by decide +kernel, by decide +kernel, by decide +kernel⟩ (by decide) dL_law_571 (lw_cell103 hG) rfl rfl rfl (Nat.le_of_ble_eq_true rfl) (by omega) (by omega) (m_want hG hRM1 hO (fun M2 hR2 hL2 => ⟨lw_t0, ?_⟩))
  refine lw_ceq hE (tgt := 1199) dL_law_574 rfl rfl ?_
  exact K Γ M2 _ hG (pw_RC_lo hR1 hL2) hR2 (pw_awant_ok hO)
theorem lw_c9 (hE : lw_C E) {i : Nat} (hi : i + 7 ≤ E.L) (hG : pw_G Γ) (hRC : pw_RC M S) (hRM : pw_RM M S) (hO : pw_SO S) (K : lw_next E kc ks i) : lw_W E (kc + 2) (ks + 12) 579 (lw_ls i) [] Γ M := by
  refine lw_less (kc' := kc) (ks' := ks) (by omega) (by omega) ?_
  refine lw_ald hE (n := 1) (a := 0) (by omega) (List.mem_of_getElem? (i := 3) rfl) rfl dL_law_579 ?_
  refine lw_cv hE (y' := mX11_prune) (ci := 11) (r := (RX11, TX11, 17)) (n := 0) (nb := 0) (av := []) (st' := []) (kc' := kc) (ks' := ks) rfl rfl kw_621 kw_622 kw_623 kw_76 kw_624 ⟨by decide +kernel, by decide +kernel, by decide +kernel⟩ (by decide) dL_law_580 (lw_cell0 hG) rfl rfl rfl (Nat.le_of_ble_eq_true rfl) (by omega) (by omega) (c_prune hG hRC hO (fun M1 hR1 hH1 => ⟨lw_t0, ?_⟩))
  have hRM1 := pw_RM_hi hRM hH1
  refine lw_ald hE (n := 2) (a := 103) (by omega) (List.mem_of_getElem? (i := 2) rfl) rfl dL_law_583 ?_
  refine lw_cv hE (y' := mX12_prune) (ci := 12) (r := (RX12, TX12, 45)) (n := 0) (nb := 103) (av := []) (st' := [(0, _)]) (kc' := kc) (ks' := ks) rfl rfl kw_1229 kw_1230 kw_1231 kw_88 kw_1232 ⟨by decide +kernel, by decide +kernel, by decide +kernel⟩ (by decide) dL_law_584 (lw_cell103 hG) rfl rfl rfl (Nat.le_of_ble_eq_true rfl) (by omega) (by omega) (m_prune hG hRM1 hO (fun M2 hR2 hL2 => ⟨lw_t0, ?_⟩))
  refine lw_ceq hE (tgt := 1199) dL_law_587 rfl rfl ?_
  exact K Γ M2 _ hG (pw_RC_lo hR1 hL2) hR2 (pw_drop_ok hO (pw_prune_b hO.1))
theorem lw_c10 (hE : lw_C E) {i : Nat} (hi : i + 7 ≤ E.L) (hG : pw_G Γ) (hRC : pw_RC M S) (hRM : pw_RM M S) (hO : pw_SO S) (K : lw_next E kc ks i) : lw_W E (kc + 2) (ks + 12) 592 (lw_ls i) [] Γ M := by
  refine lw_less (kc' := kc) (ks' := ks) (by omega) (by omega) ?_
  refine lw_ald hE (n := 1) (a := 0) (by omega) (List.mem_of_getElem? (i := 3) rfl) rfl dL_law_592 ?_
  refine lw_cv hE (y' := mX11_fold) (ci := 11) (r := (RX11, TX11, 17)) (n := 0) (nb := 0) (av := []) (st' := []) (kc' := kc) (ks' := ks) rfl rfl kw_636 kw_637 kw_638 kw_76 kw_639 ⟨by decide +kernel, by decide +kernel, by decide +kernel⟩ (by decide) dL_law_593 (lw_cell0 hG) rfl rfl rfl (Nat.le_of_ble_eq_true rfl) (by omega) (by omega) (c_fold hG hRC hO (fun M1 hR1 hH1 => ⟨lw_t0, ?_⟩))
  have hRM1 := pw_RM_hi hRM hH1
  refine lw_ald hE (n := 2) (a := 103) (by omega) (List.mem_of_getElem? (i := 2) rfl) rfl dL_law_596 ?_
  refine lw_cv hE (y' := mX12_fold) (ci := 12) (r := (RX12, TX12, 45)) (n := 0) (nb := 103) (av := []) (st' := [(0, _)]) (kc' := kc) (ks' := ks) rfl rfl kw_1237 kw_1238 kw_1239 kw_88 kw_1240 ⟨by decide +kernel, by decide +kernel, by decide +kernel⟩ (by decide) dL_law_597 (lw_cell103 hG) rfl rfl rfl (Nat.le_of_ble_eq_true rfl) (by omega) (by omega) (m_fold hG hRM1 hO (fun M2 hR2 hL2 => ⟨lw_t0, ?_⟩))
  refine lw_ceq hE (tgt := 1199) dL_law_600 rfl rfl ?_
  exact K Γ M2 _ hG (pw_RC_lo hR1 hL2) hR2 (pw_drop_ok hO (pw_fold_b hO.1))
theorem lw_c11 (hE : lw_C E) {i : Nat} (hi : i + 7 ≤ E.L) (hG : pw_G Γ) (hRC : pw_RC M S) (hRM : pw_RM M S) (hO : pw_SO S) (K : lw_next E kc ks i) : lw_W E (kc + 2) (ks + 12) 605 (lw_ls i) [] Γ M := by
  refine lw_less (kc' := kc) (ks' := ks) (by omega) (by omega) ?_
  refine lw_ald hE (n := 1) (a := 0) (by omega) (List.mem_of_getElem? (i := 3) rfl) rfl dL_law_605 ?_
  refine lw_cv hE (y' := mX11_dual) (ci := 11) (r := (RX11, TX11, 17)) (n := 0) (nb := 0) (av := []) (st' := []) (kc' := kc) (ks' := ks) rfl rfl kw_648 kw_649 kw_650 kw_76 kw_651 ⟨by decide +kernel, by decide +kernel, by decide +kernel⟩ (by decide) dL_law_606 (lw_cell0 hG) rfl rfl rfl (Nat.le_of_ble_eq_true rfl) (by omega) (by omega) (c_dual hG hRC hO (fun D hD => (pw_dual_ok hO.1 hD).1) (fun M1 hR1 hH1 => ⟨lw_t0, ?_⟩))
  have hRM1 := pw_RM_hi hRM hH1
  refine lw_ald hE (n := 2) (a := 103) (by omega) (List.mem_of_getElem? (i := 2) rfl) rfl dL_law_609 ?_
  refine lw_cv hE (y' := mX12_dual) (ci := 12) (r := (RX12, TX12, 45)) (n := 0) (nb := 103) (av := []) (st' := [(0, _)]) (kc' := kc) (ks' := ks) rfl rfl kw_1241 kw_1242 kw_1243 kw_88 kw_1244 ⟨by decide +kernel, by decide +kernel, by decide +kernel⟩ (by decide) dL_law_610 (lw_cell103 hG) rfl rfl rfl (Nat.le_of_ble_eq_true rfl) (by omega) (by omega) (m_dual hG hRM1 hO (fun M2 hR2 hL2 => ⟨lw_t0, ?_⟩))
  refine lw_ceq hE (tgt := 1199) dL_law_613 rfl rfl ?_
  exact K Γ M2 _ hG (pw_RC_lo hR1 hL2) hR2 (pw_adual_ok hO)
theorem lw_c12 (hE : lw_C E) {i : Nat} (hi : i + 7 ≤ E.L) (hG : pw_G Γ) (hRC : pw_RC M S) (hRM : pw_RM M S) (hO : pw_SO S) (K : lw_next E kc ks i) : lw_W E (kc + 2) (ks + 12) 618 (lw_ls i) [] Γ M := by
  refine lw_less (kc' := kc) (ks' := ks) (by omega) (by omega) ?_
  refine lw_ald hE (n := 1) (a := 0) (by omega) (List.mem_of_getElem? (i := 3) rfl) rfl dL_law_618 ?_
  refine lw_cv hE (y' := mX11_dualLong) (ci := 11) (r := (RX11, TX11, 17)) (n := 0) (nb := 0) (av := []) (st' := []) (kc' := kc) (ks' := ks) rfl rfl kw_676 kw_677 kw_678 kw_76 kw_679 ⟨by decide +kernel, by decide +kernel, by decide +kernel⟩ (by decide) dL_law_619 (lw_cell0 hG) rfl rfl rfl (Nat.le_of_ble_eq_true rfl) (by omega) (by omega) (c_dualLong hG hRC hO (fun M1 hR1 hH1 => ⟨lw_t0, ?_⟩))
  have hRM1 := pw_RM_hi hRM hH1
  refine lw_ald hE (n := 2) (a := 103) (by omega) (List.mem_of_getElem? (i := 2) rfl) rfl dL_law_622 ?_
  refine lw_cv hE (y' := mX12_dualLong) (ci := 12) (r := (RX12, TX12, 45)) (n := 0) (nb := 103) (av := []) (st' := [(0, _)]) (kc' := kc) (ks' := ks) rfl rfl kw_1253 kw_1254 kw_1255 kw_88 kw_1256 ⟨by decide +kernel, by decide +kernel, by decide +kernel⟩ (by decide) dL_law_623 (lw_cell103 hG) rfl rfl rfl (Nat.le_of_ble_eq_true rfl) (by omega) (by omega) (m_dualLong hG hRM1 hO (fun M2 hR2 hL2 => ⟨lw_t0, ?_⟩))
  refine lw_ceq hE (tgt := 1199) dL_law_626 rfl rfl ?_
  exact K Γ M2 _ hG (pw_RC_lo hR1 hL2) hR2 (hO)
theorem lw_c13 (hE : lw_C E) {i : Nat} (hi : i + 7 ≤ E.L) (hG : pw_G Γ) (hRC : pw_RC M S) (hRM : pw_RM M S) (hO : pw_SO S) (K : lw_next E kc ks i) : lw_W E (kc + 2) (ks + 12) 631 (lw_ls i) [] Γ M := by
  refine lw_less (kc' := kc) (ks' := ks) (by omega) (by omega) ?_
  refine lw_ald hE (n := 1) (a := 0) (by omega) (List.mem_of_getElem? (i := 3) rfl) rfl dL_law_631 ?_
  refine lw_elm hE (i := i) (k := 1) (q := 636) (List.mem_of_getElem? (i := 0) rfl) (by omega) dL_law_632 dL_law_633 (Or.inl ⟨dL_law_635, rfl, rfl⟩) dL_law_636 dL_law_637 ?_
  refine lw_elm hE (i := i) (k := 2) (q := 642) (List.mem_of_getElem? (i := 0) rfl) (by omega) dL_law_638 dL_law_639 (Or.inl ⟨dL_law_641, rfl, rfl⟩) dL_law_642 dL_law_643 ?_
  refine lw_elm hE (i := i) (k := 3) (q := 648) (List.mem_of_getElem? (i := 0) rfl) (by omega) dL_law_644 dL_law_645 (Or.inl ⟨dL_law_647, rfl, rfl⟩) dL_law_648 dL_law_649 ?_
  refine lw_elm hE (i := i) (k := 4) (q := 654) (List.mem_of_getElem? (i := 0) rfl) (by omega) dL_law_650 dL_law_651 (Or.inl ⟨dL_law_653, rfl, rfl⟩) dL_law_654 dL_law_655 ?_
  refine lw_elm hE (i := i) (k := 5) (q := 660) (List.mem_of_getElem? (i := 0) rfl) (by omega) dL_law_656 dL_law_657 (Or.inl ⟨dL_law_659, rfl, rfl⟩) dL_law_660 dL_law_661 ?_
  refine lw_cv hE (y' := mX11_sequence) (ci := 11) (r := (RX11, TX11, 17)) (n := 5) (nb := 0) (av := [lw_x E i 1, lw_x E i 2, lw_x E i 3, lw_x E i 4, lw_x E i 5]) (st' := []) (kc' := kc) (ks' := ks) rfl rfl kw_680 kw_681 kw_682 kw_76 kw_683 ⟨by decide +kernel, by decide +kernel, by decide +kernel⟩ (by decide) dL_law_662 (lw_cell0 hG) rfl rfl rfl (Nat.le_of_ble_eq_true rfl) (by omega) (by omega) (c_sequence hG hRC hO (fun D hD => (pw_sq_ok hD).1) (fun M1 hR1 hH1 => ⟨lw_t0, ?_⟩))
  have hRM1 := pw_RM_hi hRM hH1
  refine lw_ald hE (n := 2) (a := 103) (by omega) (List.mem_of_getElem? (i := 2) rfl) rfl dL_law_665 ?_
  refine lw_elm hE (i := i) (k := 1) (q := 670) (List.mem_of_getElem? (i := 0) rfl) (by omega) dL_law_666 dL_law_667 (Or.inl ⟨dL_law_669, rfl, rfl⟩) dL_law_670 dL_law_671 ?_
  refine lw_elm hE (i := i) (k := 2) (q := 676) (List.mem_of_getElem? (i := 0) rfl) (by omega) dL_law_672 dL_law_673 (Or.inl ⟨dL_law_675, rfl, rfl⟩) dL_law_676 dL_law_677 ?_
  refine lw_elm hE (i := i) (k := 3) (q := 682) (List.mem_of_getElem? (i := 0) rfl) (by omega) dL_law_678 dL_law_679 (Or.inl ⟨dL_law_681, rfl, rfl⟩) dL_law_682 dL_law_683 ?_
  refine lw_elm hE (i := i) (k := 4) (q := 688) (List.mem_of_getElem? (i := 0) rfl) (by omega) dL_law_684 dL_law_685 (Or.inl ⟨dL_law_687, rfl, rfl⟩) dL_law_688 dL_law_689 ?_
  refine lw_elm hE (i := i) (k := 5) (q := 694) (List.mem_of_getElem? (i := 0) rfl) (by omega) dL_law_690 dL_law_691 (Or.inl ⟨dL_law_693, rfl, rfl⟩) dL_law_694 dL_law_695 ?_
  refine lw_cv hE (y' := mX12_sequence) (ci := 12) (r := (RX12, TX12, 45)) (n := 5) (nb := 103) (av := [lw_x E i 1, lw_x E i 2, lw_x E i 3, lw_x E i 4, lw_x E i 5]) (st' := [(0, _)]) (kc' := kc) (ks' := ks) rfl rfl kw_1257 kw_1258 kw_1259 kw_88 kw_1260 ⟨by decide +kernel, by decide +kernel, by decide +kernel⟩ (by decide) dL_law_696 (lw_cell103 hG) rfl rfl rfl (Nat.le_of_ble_eq_true rfl) (by omega) (by omega) (m_sequence hG hRM1 hO (fun M2 hR2 hL2 => ⟨lw_t0, ?_⟩))
  refine lw_ceq hE (tgt := 1199) dL_law_699 rfl rfl ?_
  exact K Γ M2 _ hG (pw_RC_lo hR1 hL2) hR2 (pw_asequence_ok hO)
theorem lw_c14 (hE : lw_C E) {i : Nat} (hi : i + 7 ≤ E.L) (hG : pw_G Γ) (hRC : pw_RC M S) (hRM : pw_RM M S) (hO : pw_SO S) (K : lw_next E kc ks i) : lw_W E (kc + 2) (ks + 12) 704 (lw_ls i) [] Γ M := by
  refine lw_less (kc' := kc) (ks' := ks) (by omega) (by omega) ?_
  refine lw_ald hE (n := 1) (a := 0) (by omega) (List.mem_of_getElem? (i := 3) rfl) rfl dL_law_704 ?_
  refine lw_elm hE (i := i) (k := 1) (q := 709) (List.mem_of_getElem? (i := 0) rfl) (by omega) dL_law_705 dL_law_706 (Or.inl ⟨dL_law_708, rfl, rfl⟩) dL_law_709 dL_law_710 ?_
  refine lw_elm hE (i := i) (k := 2) (q := 715) (List.mem_of_getElem? (i := 0) rfl) (by omega) dL_law_711 dL_law_712 (Or.inl ⟨dL_law_714, rfl, rfl⟩) dL_law_715 dL_law_716 ?_
  refine lw_elm hE (i := i) (k := 3) (q := 721) (List.mem_of_getElem? (i := 0) rfl) (by omega) dL_law_717 dL_law_718 (Or.inl ⟨dL_law_720, rfl, rfl⟩) dL_law_721 dL_law_722 ?_
  refine lw_elm hE (i := i) (k := 4) (q := 727) (List.mem_of_getElem? (i := 0) rfl) (by omega) dL_law_723 dL_law_724 (Or.inl ⟨dL_law_726, rfl, rfl⟩) dL_law_727 dL_law_728 ?_
  refine lw_elm hE (i := i) (k := 5) (q := 733) (List.mem_of_getElem? (i := 0) rfl) (by omega) dL_law_729 dL_law_730 (Or.inl ⟨dL_law_732, rfl, rfl⟩) dL_law_733 dL_law_734 ?_
  refine lw_cv hE (y' := mX11_vector) (ci := 11) (r := (RX11, TX11, 17)) (n := 5) (nb := 0) (av := [lw_x E i 1, lw_x E i 2, lw_x E i 3, lw_x E i 4, lw_x E i 5]) (st' := []) (kc' := kc) (ks' := ks) rfl rfl kw_713 kw_714 kw_715 kw_76 kw_716 ⟨by decide +kernel, by decide +kernel, by decide +kernel⟩ (by decide) dL_law_735 (lw_cell0 hG) rfl rfl rfl (Nat.le_of_ble_eq_true rfl) (by omega) (by omega) (c_vector hG hRC hO (fun D hD => ⟨(pw_sq_ok hD).1, fun D2 hD2 => (pw_dual_ok (pw_sq_ok hD) hD2).1⟩) (fun M1 hR1 hH1 => ⟨lw_t0, ?_⟩))
  have hRM1 := pw_RM_hi hRM hH1
  refine lw_ald hE (n := 2) (a := 103) (by omega) (List.mem_of_getElem? (i := 2) rfl) rfl dL_law_738 ?_
  refine lw_elm hE (i := i) (k := 1) (q := 743) (List.mem_of_getElem? (i := 0) rfl) (by omega) dL_law_739 dL_law_740 (Or.inl ⟨dL_law_742, rfl, rfl⟩) dL_law_743 dL_law_744 ?_
  refine lw_elm hE (i := i) (k := 2) (q := 749) (List.mem_of_getElem? (i := 0) rfl) (by omega) dL_law_745 dL_law_746 (Or.inl ⟨dL_law_748, rfl, rfl⟩) dL_law_749 dL_law_750 ?_
  refine lw_elm hE (i := i) (k := 3) (q := 755) (List.mem_of_getElem? (i := 0) rfl) (by omega) dL_law_751 dL_law_752 (Or.inl ⟨dL_law_754, rfl, rfl⟩) dL_law_755 dL_law_756 ?_
  refine lw_elm hE (i := i) (k := 4) (q := 761) (List.mem_of_getElem? (i := 0) rfl) (by omega) dL_law_757 dL_law_758 (Or.inl ⟨dL_law_760, rfl, rfl⟩) dL_law_761 dL_law_762 ?_
  refine lw_elm hE (i := i) (k := 5) (q := 767) (List.mem_of_getElem? (i := 0) rfl) (by omega) dL_law_763 dL_law_764 (Or.inl ⟨dL_law_766, rfl, rfl⟩) dL_law_767 dL_law_768 ?_
  refine lw_cv hE (y' := mX12_vector) (ci := 12) (r := (RX12, TX12, 45)) (n := 5) (nb := 103) (av := [lw_x E i 1, lw_x E i 2, lw_x E i 3, lw_x E i 4, lw_x E i 5]) (st' := [(0, _)]) (kc' := kc) (ks' := ks) rfl rfl kw_1273 kw_1274 kw_1275 kw_88 kw_1276 ⟨by decide +kernel, by decide +kernel, by decide +kernel⟩ (by decide) dL_law_769 (lw_cell103 hG) rfl rfl rfl (Nat.le_of_ble_eq_true rfl) (by omega) (by omega) (m_vector hG hRM1 hO (fun M2 hR2 hL2 => ⟨lw_t0, ?_⟩))
  refine lw_ceq hE (tgt := 1199) dL_law_772 rfl rfl ?_
  exact K Γ M2 _ hG (pw_RC_lo hR1 hL2) hR2 (pw_avector_ok hO)
theorem lw_c15 (hE : lw_C E) {i : Nat} (hi : i + 7 ≤ E.L) (hG : pw_G Γ) (hRC : pw_RC M S) (hRM : pw_RM M S) (hO : pw_SO S) (K : lw_next E kc ks i) : lw_W E (kc + 2) (ks + 12) 777 (lw_ls i) [] Γ M := by
  refine lw_less (kc' := kc) (ks' := ks) (by omega) (by omega) ?_
  refine lw_ald hE (n := 1) (a := 0) (by omega) (List.mem_of_getElem? (i := 3) rfl) rfl dL_law_777 ?_
  refine lw_elm hE (i := i) (k := 1) (q := 782) (List.mem_of_getElem? (i := 0) rfl) (by omega) dL_law_778 dL_law_779 (Or.inl ⟨dL_law_781, rfl, rfl⟩) dL_law_782 dL_law_783 ?_
  refine lw_cv hE (y' := mX11_save) (ci := 11) (r := (RX11, TX11, 17)) (n := 1) (nb := 0) (av := [lw_x E i 1]) (st' := []) (kc' := kc) (ks' := ks) rfl rfl kw_717 kw_718 kw_719 kw_76 kw_720 ⟨by decide +kernel, by decide +kernel, by decide +kernel⟩ (by decide) dL_law_784 (lw_cell0 hG) rfl rfl rfl (Nat.le_of_ble_eq_true rfl) (by omega) (by omega) (c_save hG hRC hO (fun M1 hR1 hH1 => ⟨lw_t0, ?_⟩))
  have hRM1 := pw_RM_hi hRM hH1
  refine lw_ald hE (n := 2) (a := 103) (by omega) (List.mem_of_getElem? (i := 2) rfl) rfl dL_law_787 ?_
  refine lw_elm hE (i := i) (k := 1) (q := 792) (List.mem_of_getElem? (i := 0) rfl) (by omega) dL_law_788 dL_law_789 (Or.inl ⟨dL_law_791, rfl, rfl⟩) dL_law_792 dL_law_793 ?_
  refine lw_cv hE (y' := mX12_save) (ci := 12) (r := (RX12, TX12, 45)) (n := 1) (nb := 103) (av := [lw_x E i 1]) (st' := [(0, _)]) (kc' := kc) (ks' := ks) rfl rfl kw_1277 kw_1278 kw_1279 kw_88 kw_1280 ⟨by decide +kernel, by decide +kernel, by decide +kernel⟩ (by decide) dL_law_794 (lw_cell103 hG) rfl rfl rfl (Nat.le_of_ble_eq_true rfl) (by omega) (by omega) (m_save hG hRM1 hO (fun M2 hR2 hL2 => ⟨lw_t0, ?_⟩))
  refine lw_ceq hE (tgt := 1199) dL_law_797 rfl rfl ?_
  exact K Γ M2 _ hG (pw_RC_lo hR1 hL2) hR2 (pw_asave_ok hO)
theorem lw_c16 (hE : lw_C E) {i : Nat} (hi : i + 7 ≤ E.L) (hG : pw_G Γ) (hRC : pw_RC M S) (hRM : pw_RM M S) (hO : pw_SO S) (K : lw_next E kc ks i) : lw_W E (kc + 2) (ks + 12) 802 (lw_ls i) [] Γ M := by
  refine lw_less (kc' := kc) (ks' := ks) (by omega) (by omega) ?_
  refine lw_ald hE (n := 1) (a := 0) (by omega) (List.mem_of_getElem? (i := 3) rfl) rfl dL_law_802 ?_
  refine lw_elm hE (i := i) (k := 1) (q := 807) (List.mem_of_getElem? (i := 0) rfl) (by omega) dL_law_803 dL_law_804 (Or.inl ⟨dL_law_806, rfl, rfl⟩) dL_law_807 dL_law_808 ?_
  refine lw_cv hE (y' := mX11_load) (ci := 11) (r := (RX11, TX11, 17)) (n := 1) (nb := 0) (av := [lw_x E i 1]) (st' := []) (kc' := kc) (ks' := ks) rfl rfl kw_721 kw_722 kw_723 kw_76 kw_724 ⟨by decide +kernel, by decide +kernel, by decide +kernel⟩ (by decide) dL_law_809 (lw_cell0 hG) rfl rfl rfl (Nat.le_of_ble_eq_true rfl) (by omega) (by omega) (c_load hG hRC hO (fun M1 hR1 hH1 => ⟨lw_t0, ?_⟩))
  have hRM1 := pw_RM_hi hRM hH1
  refine lw_ald hE (n := 2) (a := 103) (by omega) (List.mem_of_getElem? (i := 2) rfl) rfl dL_law_812 ?_
  refine lw_elm hE (i := i) (k := 1) (q := 817) (List.mem_of_getElem? (i := 0) rfl) (by omega) dL_law_813 dL_law_814 (Or.inl ⟨dL_law_816, rfl, rfl⟩) dL_law_817 dL_law_818 ?_
  refine lw_cv hE (y' := mX12_load) (ci := 12) (r := (RX12, TX12, 45)) (n := 1) (nb := 103) (av := [lw_x E i 1]) (st' := [(0, _)]) (kc' := kc) (ks' := ks) rfl rfl kw_1284 kw_1285 kw_1286 kw_88 kw_1287 ⟨by decide +kernel, by decide +kernel, by decide +kernel⟩ (by decide) dL_law_819 (lw_cell103 hG) rfl rfl rfl (Nat.le_of_ble_eq_true rfl) (by omega) (by omega) (m_load hG hRM1 hO (fun M2 hR2 hL2 => ⟨lw_t0, ?_⟩))
  refine lw_ceq hE (tgt := 1199) dL_law_822 rfl rfl ?_
  exact K Γ M2 _ hG (pw_RC_lo hR1 hL2) hR2 (pw_aload_ok hO)
theorem lw_m17 (hE : lw_C E) {i : Nat} {x : Int} (hi : i + 7 ≤ E.L) (hG : pw_G Γ) (hRC : pw_RC M S) (hRM : pw_RM M S) (hO : pw_SO S) (hx : (¬ (0 ≤ (E.xs (i + 1)).toInt ∧ (E.xs (i + 1)).toInt < 3 ∧ S.sf (E.xs (i + 1)).toInt = 1) ∧ x = -1) ∨ ((0 ≤ (E.xs (i + 1)).toInt ∧ (E.xs (i + 1)).toInt < 3 ∧ S.sf (E.xs (i + 1)).toInt = 1) ∧ ((x = 1 ∧ pw_smP S.P (S.sp (E.xs (i + 1)).toInt)) ∨ (x = 0 ∧ ¬ pw_smP S.P (S.sp (E.xs (i + 1)).toInt))))) (K : lw_next E kc ks i) : lw_W E (kc + 0) (ks + 0) 837 (lw_ls i) [(0, x)] Γ M := by
  refine lw_ald hE (n := 2) (a := 103) (by omega) (List.mem_of_getElem? (i := 2) rfl) rfl dL_law_837 ?_
  refine lw_elm hE (i := i) (k := 1) (q := 842) (List.mem_of_getElem? (i := 0) rfl) (by omega) dL_law_838 dL_law_839 (Or.inl ⟨dL_law_841, rfl, rfl⟩) dL_law_842 dL_law_843 ?_
  refine lw_cv hE (y' := mX12_same) (ci := 12) (r := (RX12, TX12, 45)) (n := 1) (nb := 103) (av := [lw_x E i 1]) (st' := [(0, x)]) (kc' := kc) (ks' := ks) rfl rfl kw_1288 kw_1289 kw_1290 kw_88 kw_1291 ⟨by decide +kernel, by decide +kernel, by decide +kernel⟩ (by decide) dL_law_844 (lw_cell103 hG) rfl rfl rfl (Nat.le_of_ble_eq_true rfl) (by omega) (by omega) (m_same hG hRM hO (fun h0 M2 hR2 hL2 => ⟨lw_t0, ?_⟩) (fun n0 n1 n2 x' hx' M2 hR2 hL2 => ⟨lw_t0, ?_⟩))
  · rcases hx with ⟨_, rfl⟩ | ⟨hc, _⟩
    · refine lw_ceq hE (tgt := 1199) dL_law_847 rfl rfl ?_
    
      exact K Γ M2 S hG (pw_RC_lo hRC hL2) hR2 hO
    · exact absurd hc h0
  · have hxx : x = x' := by
      rcases hx with ⟨hn, _⟩ | ⟨_, hx⟩
      · exact absurd ⟨n0, n1, n2⟩ hn
      · rcases hx with ⟨a1, a2⟩ | ⟨a1, a2⟩ <;> rcases hx' with ⟨b1, b2⟩ | ⟨b1, b2⟩
        · omega
        · exact absurd a2 b2
        · exact absurd b2 a2
        · omega
    refine lw_ceq hE (tgt := 1199) dL_law_847 rfl hxx ?_
  
    exact K Γ M2 S hG (pw_RC_lo hRC hL2) hR2 hO
theorem lw_c17 (hE : lw_C E) {i : Nat} (hi : i + 7 ≤ E.L) (hG : pw_G Γ) (hRC : pw_RC M S) (hRM : pw_RM M S) (hO : pw_SO S) (K : lw_next E kc ks i) : lw_W E (kc + 2) (ks + 12) 827 (lw_ls i) [] Γ M := by
  refine lw_less (kc' := kc) (ks' := ks) (by omega) (by omega) ?_
  refine lw_ald hE (n := 1) (a := 0) (by omega) (List.mem_of_getElem? (i := 3) rfl) rfl dL_law_827 ?_
  refine lw_elm hE (i := i) (k := 1) (q := 832) (List.mem_of_getElem? (i := 0) rfl) (by omega) dL_law_828 dL_law_829 (Or.inl ⟨dL_law_831, rfl, rfl⟩) dL_law_832 dL_law_833 ?_
  refine lw_cv hE (y' := mX11_same) (ci := 11) (r := (RX11, TX11, 17)) (n := 1) (nb := 0) (av := [lw_x E i 1]) (st' := []) (kc' := kc) (ks' := ks) rfl rfl kw_729 kw_730 kw_731 kw_76 kw_732 ⟨by decide +kernel, by decide +kernel, by decide +kernel⟩ (by decide) dL_law_834 (lw_cell0 hG) rfl rfl rfl (Nat.le_of_ble_eq_true rfl) (by omega) (by omega) (c_same hG hRC hO (fun h0 => ⟨lw_t0, ?_⟩) (fun n0 n1 n2 x hx M1 hR1 hH1 => ⟨lw_t0, ?_⟩))
  · exact lw_m17 hE hi hG hRC hRM hO (Or.inl ⟨h0, rfl⟩) K
  · exact lw_m17 hE hi hG hR1 (pw_RM_hi hRM hH1) hO (Or.inr ⟨⟨n0, n1, n2⟩, hx⟩) K
theorem lw_c18 (hE : lw_C E) {i : Nat} (hi : i + 7 ≤ E.L) (hG : pw_G Γ) (hRC : pw_RC M S) (hRM : pw_RM M S) (hO : pw_SO S) (K : lw_next E kc ks i) : lw_W E (kc + 2) (ks + 12) 852 (lw_ls i) [] Γ M := by
  refine lw_less (kc' := kc) (ks' := ks) (by omega) (by omega) ?_
  refine lw_ald hE (n := 1) (a := 0) (by omega) (List.mem_of_getElem? (i := 3) rfl) rfl dL_law_852 ?_
  refine lw_cv hE (y' := mX11_undo) (ci := 11) (r := (RX11, TX11, 17)) (n := 0) (nb := 0) (av := []) (st' := []) (kc' := kc) (ks' := ks) rfl rfl kw_737 kw_738 kw_739 kw_76 kw_740 ⟨by decide +kernel, by decide +kernel, by decide +kernel⟩ (by decide) dL_law_853 (lw_cell0 hG) rfl rfl rfl (Nat.le_of_ble_eq_true rfl) (by omega) (by omega) (c_undo hG hRC hO (fun M1 hR1 hH1 => ⟨lw_t0, ?_⟩))
  have hRM1 := pw_RM_hi hRM hH1
  refine lw_ald hE (n := 2) (a := 103) (by omega) (List.mem_of_getElem? (i := 2) rfl) rfl dL_law_856 ?_
  refine lw_cv hE (y' := mX12_undo) (ci := 12) (r := (RX12, TX12, 45)) (n := 0) (nb := 103) (av := []) (st' := [(0, _)]) (kc' := kc) (ks' := ks) rfl rfl kw_1292 kw_1293 kw_1294 kw_88 kw_1295 ⟨by decide +kernel, by decide +kernel, by decide +kernel⟩ (by decide) dL_law_857 (lw_cell103 hG) rfl rfl rfl (Nat.le_of_ble_eq_true rfl) (by omega) (by omega) (m_undo hG hRM1 hO (fun M2 hR2 hL2 => ⟨lw_t0, ?_⟩))
  refine lw_ceq hE (tgt := 1199) dL_law_860 rfl rfl ?_
  exact K Γ M2 _ hG (pw_RC_lo hR1 hL2) hR2 (pw_aundo_ok hO)
theorem lw_c19 (hE : lw_C E) {i : Nat} (hi : i + 7 ≤ E.L) (hG : pw_G Γ) (hRC : pw_RC M S) (hRM : pw_RM M S) (hO : pw_SO S) (K : lw_next E kc ks i) : lw_W E (kc + 2) (ks + 12) 865 (lw_ls i) [] Γ M := by
  refine lw_less (kc' := kc) (ks' := ks) (by omega) (by omega) ?_
  refine lw_ald hE (n := 1) (a := 0) (by omega) (List.mem_of_getElem? (i := 3) rfl) rfl dL_law_865 ?_
  refine lw_elm hE (i := i) (k := 1) (q := 870) (List.mem_of_getElem? (i := 0) rfl) (by omega) dL_law_866 dL_law_867 (Or.inl ⟨dL_law_869, rfl, rfl⟩) dL_law_870 dL_law_871 ?_
  refine lw_elm hE (i := i) (k := 2) (q := 876) (List.mem_of_getElem? (i := 0) rfl) (by omega) dL_law_872 dL_law_873 (Or.inl ⟨dL_law_875, rfl, rfl⟩) dL_law_876 dL_law_877 ?_
  refine lw_cv hE (y' := mX11_method) (ci := 11) (r := (RX11, TX11, 17)) (n := 2) (nb := 0) (av := [lw_x E i 1, lw_x E i 2]) (st' := []) (kc' := kc) (ks' := ks) rfl rfl kw_745 kw_746 kw_747 kw_76 kw_748 ⟨by decide +kernel, by decide +kernel, by decide +kernel⟩ (by decide) dL_law_878 (lw_cell0 hG) rfl rfl rfl (Nat.le_of_ble_eq_true rfl) (by omega) (by omega) (c_method hG hRC (fun M1 hR1 hH1 => ⟨lw_t0, ?_⟩))
  have hRM1 := pw_RM_hi hRM hH1
  refine lw_ald hE (n := 2) (a := 103) (by omega) (List.mem_of_getElem? (i := 2) rfl) rfl dL_law_881 ?_
  refine lw_elm hE (i := i) (k := 1) (q := 886) (List.mem_of_getElem? (i := 0) rfl) (by omega) dL_law_882 dL_law_883 (Or.inl ⟨dL_law_885, rfl, rfl⟩) dL_law_886 dL_law_887 ?_
  refine lw_elm hE (i := i) (k := 2) (q := 892) (List.mem_of_getElem? (i := 0) rfl) (by omega) dL_law_888 dL_law_889 (Or.inl ⟨dL_law_891, rfl, rfl⟩) dL_law_892 dL_law_893 ?_
  refine lw_cv hE (y' := mX12_method) (ci := 12) (r := (RX12, TX12, 45)) (n := 2) (nb := 103) (av := [lw_x E i 1, lw_x E i 2]) (st' := [(0, _)]) (kc' := kc) (ks' := ks) rfl rfl kw_1296 kw_1297 kw_1298 kw_88 kw_1299 ⟨by decide +kernel, by decide +kernel, by decide +kernel⟩ (by decide) dL_law_894 (lw_cell103 hG) rfl rfl rfl (Nat.le_of_ble_eq_true rfl) (by omega) (by omega) (m_method hG hRM1 (fun M2 hR2 hL2 => ⟨lw_t0, ?_⟩))
  refine lw_ceq hE (tgt := 1199) dL_law_897 rfl rfl ?_
  exact K Γ M2 _ hG (pw_RC_lo hR1 hL2) hR2 (hO)
theorem lw_c20 (hE : lw_C E) {i : Nat} (hi : i + 7 ≤ E.L) (hG : pw_G Γ) (hRC : pw_RC M S) (hRM : pw_RM M S) (hO : pw_SO S) (K : lw_next E kc ks i) : lw_W E (kc + 2) (ks + 12) 902 (lw_ls i) [] Γ M := by
  refine lw_less (kc' := kc) (ks' := ks) (by omega) (by omega) ?_
  refine lw_ald hE (n := 1) (a := 0) (by omega) (List.mem_of_getElem? (i := 3) rfl) rfl dL_law_902 ?_
  refine lw_elm hE (i := i) (k := 1) (q := 907) (List.mem_of_getElem? (i := 0) rfl) (by omega) dL_law_903 dL_law_904 (Or.inl ⟨dL_law_906, rfl, rfl⟩) dL_law_907 dL_law_908 ?_
  refine lw_elm hE (i := i) (k := 2) (q := 913) (List.mem_of_getElem? (i := 0) rfl) (by omega) dL_law_909 dL_law_910 (Or.inl ⟨dL_law_912, rfl, rfl⟩) dL_law_913 dL_law_914 ?_
  refine lw_elm hE (i := i) (k := 3) (q := 919) (List.mem_of_getElem? (i := 0) rfl) (by omega) dL_law_915 dL_law_916 (Or.inl ⟨dL_law_918, rfl, rfl⟩) dL_law_919 dL_law_920 ?_
  refine lw_cv hE (y' := mX11_chain) (ci := 11) (r := (RX11, TX11, 17)) (n := 3) (nb := 0) (av := [lw_x E i 1, lw_x E i 2, lw_x E i 3]) (st' := []) (kc' := kc) (ks' := ks) rfl rfl kw_776 kw_777 kw_778 kw_76 kw_779 ⟨by decide +kernel, by decide +kernel, by decide +kernel⟩ (by decide) dL_law_921 (lw_cell0 hG) rfl rfl rfl (Nat.le_of_ble_eq_true rfl) (by omega) (by omega) (c_chain hG hRC (fun M1 hR1 hH1 => ⟨lw_t0, ?_⟩))
  have hRM1 := pw_RM_hi hRM hH1
  refine lw_ald hE (n := 2) (a := 103) (by omega) (List.mem_of_getElem? (i := 2) rfl) rfl dL_law_924 ?_
  refine lw_elm hE (i := i) (k := 1) (q := 929) (List.mem_of_getElem? (i := 0) rfl) (by omega) dL_law_925 dL_law_926 (Or.inl ⟨dL_law_928, rfl, rfl⟩) dL_law_929 dL_law_930 ?_
  refine lw_elm hE (i := i) (k := 2) (q := 935) (List.mem_of_getElem? (i := 0) rfl) (by omega) dL_law_931 dL_law_932 (Or.inl ⟨dL_law_934, rfl, rfl⟩) dL_law_935 dL_law_936 ?_
  refine lw_elm hE (i := i) (k := 3) (q := 941) (List.mem_of_getElem? (i := 0) rfl) (by omega) dL_law_937 dL_law_938 (Or.inl ⟨dL_law_940, rfl, rfl⟩) dL_law_941 dL_law_942 ?_
  refine lw_cv hE (y' := mX12_chain) (ci := 12) (r := (RX12, TX12, 45)) (n := 3) (nb := 103) (av := [lw_x E i 1, lw_x E i 2, lw_x E i 3]) (st' := [(0, _)]) (kc' := kc) (ks' := ks) rfl rfl kw_1324 kw_1325 kw_1326 kw_88 kw_1327 ⟨by decide +kernel, by decide +kernel, by decide +kernel⟩ (by decide) dL_law_943 (lw_cell103 hG) rfl rfl rfl (Nat.le_of_ble_eq_true rfl) (by omega) (by omega) (m_chain hG hRM1 (fun M2 hR2 hL2 => ⟨lw_t0, ?_⟩))
  refine lw_ceq hE (tgt := 1199) dL_law_946 rfl rfl ?_
  exact K Γ M2 _ hG (pw_RC_lo hR1 hL2) hR2 (hO)
theorem lw_c21 (hE : lw_C E) {i : Nat} (hi : i + 7 ≤ E.L) (hG : pw_G Γ) (hRC : pw_RC M S) (hRM : pw_RM M S) (hO : pw_SO S) (K : lw_next E kc ks i) : lw_W E (kc + 2) (ks + 12) 951 (lw_ls i) [] Γ M := by
  refine lw_less (kc' := kc) (ks' := ks) (by omega) (by omega) ?_
  refine lw_ald hE (n := 1) (a := 0) (by omega) (List.mem_of_getElem? (i := 3) rfl) rfl dL_law_951 ?_
  refine lw_elm hE (i := i) (k := 1) (q := 956) (List.mem_of_getElem? (i := 0) rfl) (by omega) dL_law_952 dL_law_953 (Or.inl ⟨dL_law_955, rfl, rfl⟩) dL_law_956 dL_law_957 ?_
  refine lw_cv hE (y' := mX11_best) (ci := 11) (r := (RX11, TX11, 17)) (n := 1) (nb := 0) (av := [lw_x E i 1]) (st' := []) (kc' := kc) (ks' := ks) rfl rfl kw_780 kw_781 kw_782 kw_76 kw_783 ⟨by decide +kernel, by decide +kernel, by decide +kernel⟩ (by decide) dL_law_958 (lw_cell0 hG) rfl rfl rfl (Nat.le_of_ble_eq_true rfl) (by omega) (by omega) (c_best hG hRC (fun M1 hR1 hH1 => ⟨lw_t0, ?_⟩))
  have hRM1 := pw_RM_hi hRM hH1
  refine lw_ald hE (n := 2) (a := 103) (by omega) (List.mem_of_getElem? (i := 2) rfl) rfl dL_law_961 ?_
  refine lw_elm hE (i := i) (k := 1) (q := 966) (List.mem_of_getElem? (i := 0) rfl) (by omega) dL_law_962 dL_law_963 (Or.inl ⟨dL_law_965, rfl, rfl⟩) dL_law_966 dL_law_967 ?_
  refine lw_cv hE (y' := mX12_best) (ci := 12) (r := (RX12, TX12, 45)) (n := 1) (nb := 103) (av := [lw_x E i 1]) (st' := [(0, _)]) (kc' := kc) (ks' := ks) rfl rfl kw_1328 kw_1329 kw_1330 kw_88 kw_1331 ⟨by decide +kernel, by decide +kernel, by decide +kernel⟩ (by decide) dL_law_968 (lw_cell103 hG) rfl rfl rfl (Nat.le_of_ble_eq_true rfl) (by omega) (by omega) (m_best hG hRM1 (fun M2 hR2 hL2 => ⟨lw_t0, ?_⟩))
  refine lw_ceq hE (tgt := 1199) dL_law_971 rfl rfl ?_
  exact K Γ M2 _ hG (pw_RC_lo hR1 hL2) hR2 (hO)
theorem lw_m22 (hE : lw_C E) {i : Nat} {x : Int} (hi : i + 7 ≤ E.L) (hG : pw_G Γ) (hRC : pw_RC M S) (hRM : pw_RM M S) (hO : pw_SO S) (hx : (¬ (pw_mok (E.xs (i + 1)).toInt (E.xs (i + 2)).toInt) ∧ x = -1) ∨ ((pw_mok (E.xs (i + 1)).toInt (E.xs (i + 2)).toInt) ∧ ((x = 1 ∧ pw_ahead (pw_ch (E.xs (i + 1)).toInt (E.xs (i + 2)).toInt)) ∨ (x = 0 ∧ ¬ pw_ahead (pw_ch (E.xs (i + 1)).toInt (E.xs (i + 2)).toInt))))) (K : lw_next E kc ks i) : lw_W E (kc + 0) (ks + 0) 992 (lw_ls i) [(0, x)] Γ M := by
  refine lw_ald hE (n := 2) (a := 103) (by omega) (List.mem_of_getElem? (i := 2) rfl) rfl dL_law_992 ?_
  refine lw_elm hE (i := i) (k := 1) (q := 997) (List.mem_of_getElem? (i := 0) rfl) (by omega) dL_law_993 dL_law_994 (Or.inl ⟨dL_law_996, rfl, rfl⟩) dL_law_997 dL_law_998 ?_
  refine lw_elm hE (i := i) (k := 2) (q := 1003) (List.mem_of_getElem? (i := 0) rfl) (by omega) dL_law_999 dL_law_1000 (Or.inl ⟨dL_law_1002, rfl, rfl⟩) dL_law_1003 dL_law_1004 ?_
  refine lw_cv hE (y' := mX12_star) (ci := 12) (r := (RX12, TX12, 45)) (n := 2) (nb := 103) (av := [lw_x E i 1, lw_x E i 2]) (st' := [(0, x)]) (kc' := kc) (ks' := ks) rfl rfl kw_1332 kw_1333 kw_1334 kw_88 kw_1335 ⟨by decide +kernel, by decide +kernel, by decide +kernel⟩ (by decide) dL_law_1005 (lw_cell103 hG) rfl rfl rfl (Nat.le_of_ble_eq_true rfl) (by omega) (by omega) (m_star hG hRM (fun h0 M2 hR2 hL2 => ⟨lw_t0, ?_⟩) (fun n0 x' hx' M2 hR2 hL2 => ⟨lw_t0, ?_⟩))
  · rcases hx with ⟨_, rfl⟩ | ⟨hc, _⟩
    · refine lw_ceq hE (tgt := 1199) dL_law_1008 rfl rfl ?_
    
      exact K Γ M2 S hG (pw_RC_lo hRC hL2) hR2 hO
    · exact absurd hc h0
  · have hxx : x = x' := by
      rcases hx with ⟨hn, _⟩ | ⟨_, hx⟩
      · exact absurd n0 hn
      · rcases hx with ⟨a1, a2⟩ | ⟨a1, a2⟩ <;> rcases hx' with ⟨b1, b2⟩ | ⟨b1, b2⟩
        · omega
        · exact absurd a2 b2
        · exact absurd b2 a2
        · omega
    refine lw_ceq hE (tgt := 1199) dL_law_1008 rfl hxx ?_
  
    exact K Γ M2 S hG (pw_RC_lo hRC hL2) hR2 hO
theorem lw_c22 (hE : lw_C E) {i : Nat} (hi : i + 7 ≤ E.L) (hG : pw_G Γ) (hRC : pw_RC M S) (hRM : pw_RM M S) (hO : pw_SO S) (K : lw_next E kc ks i) : lw_W E (kc + 2) (ks + 12) 976 (lw_ls i) [] Γ M := by
  refine lw_less (kc' := kc) (ks' := ks) (by omega) (by omega) ?_
  refine lw_ald hE (n := 1) (a := 0) (by omega) (List.mem_of_getElem? (i := 3) rfl) rfl dL_law_976 ?_
  refine lw_elm hE (i := i) (k := 1) (q := 981) (List.mem_of_getElem? (i := 0) rfl) (by omega) dL_law_977 dL_law_978 (Or.inl ⟨dL_law_980, rfl, rfl⟩) dL_law_981 dL_law_982 ?_
  refine lw_elm hE (i := i) (k := 2) (q := 987) (List.mem_of_getElem? (i := 0) rfl) (by omega) dL_law_983 dL_law_984 (Or.inl ⟨dL_law_986, rfl, rfl⟩) dL_law_987 dL_law_988 ?_
  refine lw_cv hE (y' := mX11_star) (ci := 11) (r := (RX11, TX11, 17)) (n := 2) (nb := 0) (av := [lw_x E i 1, lw_x E i 2]) (st' := []) (kc' := kc) (ks' := ks) rfl rfl kw_784 kw_785 kw_786 kw_76 kw_787 ⟨by decide +kernel, by decide +kernel, by decide +kernel⟩ (by decide) dL_law_989 (lw_cell0 hG) rfl rfl rfl (Nat.le_of_ble_eq_true rfl) (by omega) (by omega) (c_star hG hRC (fun h0 => ⟨lw_t0, ?_⟩) (fun n0 x hx M1 hR1 hH1 => ⟨lw_t0, ?_⟩))
  · exact lw_m22 hE hi hG hRC hRM hO (Or.inl ⟨h0, rfl⟩) K
  · exact lw_m22 hE hi hG hR1 (pw_RM_hi hRM hH1) hO (Or.inr ⟨n0, hx⟩) K
theorem lw_c23 (hE : lw_C E) {i : Nat} (hi : i + 7 ≤ E.L) (hG : pw_G Γ) (hRC : pw_RC M S) (hRM : pw_RM M S) (hO : pw_SO S) (K : lw_next E kc ks i) : lw_W E (kc + 2) (ks + 12) 1013 (lw_ls i) [] Γ M := by
  refine lw_less (kc' := kc) (ks' := ks) (by omega) (by omega) ?_
  refine lw_ald hE (n := 1) (a := 0) (by omega) (List.mem_of_getElem? (i := 3) rfl) rfl dL_law_1013 ?_
  refine lw_elm hE (i := i) (k := 1) (q := 1018) (List.mem_of_getElem? (i := 0) rfl) (by omega) dL_law_1014 dL_law_1015 (Or.inl ⟨dL_law_1017, rfl, rfl⟩) dL_law_1018 dL_law_1019 ?_
  refine lw_elm hE (i := i) (k := 2) (q := 1024) (List.mem_of_getElem? (i := 0) rfl) (by omega) dL_law_1020 dL_law_1021 (Or.inl ⟨dL_law_1023, rfl, rfl⟩) dL_law_1024 dL_law_1025 ?_
  refine lw_cv hE (y' := mX11_lower) (ci := 11) (r := (RX11, TX11, 17)) (n := 2) (nb := 0) (av := [lw_x E i 1, lw_x E i 2]) (st' := []) (kc' := kc) (ks' := ks) rfl rfl kw_796 kw_797 kw_798 kw_76 kw_799 ⟨by decide +kernel, by decide +kernel, by decide +kernel⟩ (by decide) dL_law_1026 (lw_cell0 hG) rfl rfl rfl (Nat.le_of_ble_eq_true rfl) (by omega) (by omega) (c_lower ⟨lw_t0, ?_⟩)
  have hRM1 := hRM
  have hR1 := hRC
  refine lw_ald hE (n := 2) (a := 103) (by omega) (List.mem_of_getElem? (i := 2) rfl) rfl dL_law_1029 ?_
  refine lw_elm hE (i := i) (k := 1) (q := 1034) (List.mem_of_getElem? (i := 0) rfl) (by omega) dL_law_1030 dL_law_1031 (Or.inl ⟨dL_law_1033, rfl, rfl⟩) dL_law_1034 dL_law_1035 ?_
  refine lw_elm hE (i := i) (k := 2) (q := 1040) (List.mem_of_getElem? (i := 0) rfl) (by omega) dL_law_1036 dL_law_1037 (Or.inl ⟨dL_law_1039, rfl, rfl⟩) dL_law_1040 dL_law_1041 ?_
  refine lw_cv hE (y' := mX12_lower) (ci := 12) (r := (RX12, TX12, 45)) (n := 2) (nb := 103) (av := [lw_x E i 1, lw_x E i 2]) (st' := [(0, _)]) (kc' := kc) (ks' := ks) rfl rfl kw_1336 kw_1337 kw_1338 kw_88 kw_1339 ⟨by decide +kernel, by decide +kernel, by decide +kernel⟩ (by decide) dL_law_1042 (lw_cell103 hG) rfl rfl rfl (Nat.le_of_ble_eq_true rfl) (by omega) (by omega) (m_lower hG hRM1 (fun M2 hR2 hL2 => ⟨lw_t0, ?_⟩))
  refine lw_ceq hE (tgt := 1199) dL_law_1045 rfl rfl ?_
  exact K Γ M2 _ hG (pw_RC_lo hR1 hL2) hR2 (hO)
theorem lw_c24 (hE : lw_C E) {i : Nat} (hi : i + 7 ≤ E.L) (hG : pw_G Γ) (hRC : pw_RC M S) (hRM : pw_RM M S) (hO : pw_SO S) (K : lw_next E kc ks i) : lw_W E (kc + 2) (ks + 12) 1050 (lw_ls i) [] Γ M := by
  refine lw_less (kc' := kc) (ks' := ks) (by omega) (by omega) ?_
  refine lw_ald hE (n := 1) (a := 0) (by omega) (List.mem_of_getElem? (i := 3) rfl) rfl dL_law_1050 ?_
  refine lw_elm hE (i := i) (k := 1) (q := 1055) (List.mem_of_getElem? (i := 0) rfl) (by omega) dL_law_1051 dL_law_1052 (Or.inl ⟨dL_law_1054, rfl, rfl⟩) dL_law_1055 dL_law_1056 ?_
  refine lw_elm hE (i := i) (k := 2) (q := 1061) (List.mem_of_getElem? (i := 0) rfl) (by omega) dL_law_1057 dL_law_1058 (Or.inl ⟨dL_law_1060, rfl, rfl⟩) dL_law_1061 dL_law_1062 ?_
  refine lw_cv hE (y' := mX11_search) (ci := 11) (r := (RX11, TX11, 17)) (n := 2) (nb := 0) (av := [lw_x E i 1, lw_x E i 2]) (st' := []) (kc' := kc) (ks' := ks) rfl rfl kw_805 kw_806 kw_807 kw_76 kw_808 ⟨by decide +kernel, by decide +kernel, by decide +kernel⟩ (by decide) dL_law_1063 (lw_cell0 hG) rfl rfl rfl (Nat.le_of_ble_eq_true rfl) (by omega) (by omega) (c_search hG hRC (fun M1 hR1 hH1 => ⟨lw_t0, ?_⟩))
  have hRM1 := pw_RM_hi hRM hH1
  have hR1 := pw_asr_RC hR1
  rw [← pw_asr_eq]
  refine lw_ald hE (n := 2) (a := 103) (by omega) (List.mem_of_getElem? (i := 2) rfl) rfl dL_law_1066 ?_
  refine lw_elm hE (i := i) (k := 1) (q := 1071) (List.mem_of_getElem? (i := 0) rfl) (by omega) dL_law_1067 dL_law_1068 (Or.inl ⟨dL_law_1070, rfl, rfl⟩) dL_law_1071 dL_law_1072 ?_
  refine lw_elm hE (i := i) (k := 2) (q := 1077) (List.mem_of_getElem? (i := 0) rfl) (by omega) dL_law_1073 dL_law_1074 (Or.inl ⟨dL_law_1076, rfl, rfl⟩) dL_law_1077 dL_law_1078 ?_
  refine lw_cv hE (y' := mX12_search) (ci := 12) (r := (RX12, TX12, 45)) (n := 2) (nb := 103) (av := [lw_x E i 1, lw_x E i 2]) (st' := [(0, _)]) (kc' := kc) (ks' := ks) rfl rfl kw_1344 kw_1345 kw_1346 kw_88 kw_1347 ⟨by decide +kernel, by decide +kernel, by decide +kernel⟩ (by decide) dL_law_1079 (lw_cell103 hG) rfl rfl rfl (Nat.le_of_ble_eq_true rfl) (by omega) (by omega) (m_search hG hRM1 (fun M2 hR2 hL2 => ⟨lw_t0, ?_⟩))
  refine lw_ceq hE (tgt := 1199) dL_law_1082 rfl rfl ?_
  exact K Γ M2 _ hG (pw_RC_lo hR1 hL2) hR2 (pw_asr_ok hO)
theorem lw_c25 (hE : lw_C E) {i : Nat} (hi : i + 7 ≤ E.L) (hG : pw_G Γ) (hRC : pw_RC M S) (hRM : pw_RM M S) (hO : pw_SO S) (K : lw_next E kc ks i) : lw_W E (kc + 2) (ks + 12) 1087 (lw_ls i) [] Γ M := by
  refine lw_less (kc' := kc) (ks' := ks) (by omega) (by omega) ?_
  refine lw_ald hE (n := 1) (a := 0) (by omega) (List.mem_of_getElem? (i := 3) rfl) rfl dL_law_1087 ?_
  refine lw_elm hE (i := i) (k := 1) (q := 1092) (List.mem_of_getElem? (i := 0) rfl) (by omega) dL_law_1088 dL_law_1089 (Or.inl ⟨dL_law_1091, rfl, rfl⟩) dL_law_1092 dL_law_1093 ?_
  refine lw_cv hE (y' := mX11_found) (ci := 11) (r := (RX11, TX11, 17)) (n := 1) (nb := 0) (av := [lw_x E i 1]) (st' := []) (kc' := kc) (ks' := ks) rfl rfl kw_818 kw_819 kw_820 kw_76 kw_821 ⟨by decide +kernel, by decide +kernel, by decide +kernel⟩ (by decide) dL_law_1094 (lw_cell0 hG) rfl rfl rfl (Nat.le_of_ble_eq_true rfl) (by omega) (by omega) (c_found hG hRC hO ⟨lw_t0, ?_⟩)
  have hRM1 := hRM
  have hR1 := hRC
  refine lw_ald hE (n := 2) (a := 103) (by omega) (List.mem_of_getElem? (i := 2) rfl) rfl dL_law_1097 ?_
  refine lw_elm hE (i := i) (k := 1) (q := 1102) (List.mem_of_getElem? (i := 0) rfl) (by omega) dL_law_1098 dL_law_1099 (Or.inl ⟨dL_law_1101, rfl, rfl⟩) dL_law_1102 dL_law_1103 ?_
  refine lw_cv hE (y' := mX12_found) (ci := 12) (r := (RX12, TX12, 45)) (n := 1) (nb := 103) (av := [lw_x E i 1]) (st' := [(0, _)]) (kc' := kc) (ks' := ks) rfl rfl kw_1354 kw_1355 kw_1356 kw_88 kw_1357 ⟨by decide +kernel, by decide +kernel, by decide +kernel⟩ (by decide) dL_law_1104 (lw_cell103 hG) rfl rfl rfl (Nat.le_of_ble_eq_true rfl) (by omega) (by omega) (m_found hG hRM1 hO (fun M2 hR2 hL2 => ⟨lw_t0, ?_⟩))
  refine lw_ceq hE (tgt := 1199) dL_law_1107 rfl rfl ?_
  exact K Γ M2 _ hG (pw_RC_lo hR1 hL2) hR2 (hO)
theorem lw_m26 (hE : lw_C E) {i : Nat} {x : Int} (hi : i + 7 ≤ E.L) (hG : pw_G Γ) (hRC : pw_RC M S) (hRM : pw_RM M S) (hO : pw_SO S) (hx : (¬ (1 ≤ (E.xs (i + 1)).toInt ∧ (E.xs (i + 1)).toInt ≤ 6) ∧ x = -1) ∨ ((1 ≤ (E.xs (i + 1)).toInt ∧ (E.xs (i + 1)).toInt ≤ 6) ∧ ((x = 1 ∧ pw_isc (pw_r6 (E.xs (i + 2)).toInt (E.xs (i + 3)).toInt (E.xs (i + 4)).toInt (E.xs (i + 5)).toInt (E.xs (i + 6)).toInt) (E.xs (i + 1)).toInt) ∨ (x = 0 ∧ ¬ pw_isc (pw_r6 (E.xs (i + 2)).toInt (E.xs (i + 3)).toInt (E.xs (i + 4)).toInt (E.xs (i + 5)).toInt (E.xs (i + 6)).toInt) (E.xs (i + 1)).toInt)))) (K : lw_next E kc ks i) : lw_W E (kc + 1) (ks + 6) 1153 (lw_ls i) [(0, x)] Γ M := by
  refine lw_ald hE (n := 2) (a := 103) (by omega) (List.mem_of_getElem? (i := 2) rfl) rfl dL_law_1153 ?_
  refine lw_elm hE (i := i) (k := 1) (q := 1158) (List.mem_of_getElem? (i := 0) rfl) (by omega) dL_law_1154 dL_law_1155 (Or.inl ⟨dL_law_1157, rfl, rfl⟩) dL_law_1158 dL_law_1159 ?_
  refine lw_elm hE (i := i) (k := 2) (q := 1164) (List.mem_of_getElem? (i := 0) rfl) (by omega) dL_law_1160 dL_law_1161 (Or.inl ⟨dL_law_1163, rfl, rfl⟩) dL_law_1164 dL_law_1165 ?_
  refine lw_elm hE (i := i) (k := 3) (q := 1170) (List.mem_of_getElem? (i := 0) rfl) (by omega) dL_law_1166 dL_law_1167 (Or.inl ⟨dL_law_1169, rfl, rfl⟩) dL_law_1170 dL_law_1171 ?_
  refine lw_elm hE (i := i) (k := 4) (q := 1176) (List.mem_of_getElem? (i := 0) rfl) (by omega) dL_law_1172 dL_law_1173 (Or.inl ⟨dL_law_1175, rfl, rfl⟩) dL_law_1176 dL_law_1177 ?_
  refine lw_elm hE (i := i) (k := 5) (q := 1182) (List.mem_of_getElem? (i := 0) rfl) (by omega) dL_law_1178 dL_law_1179 (Or.inl ⟨dL_law_1181, rfl, rfl⟩) dL_law_1182 dL_law_1183 ?_
  refine lw_elm hE (i := i) (k := 6) (q := 1189) (List.mem_of_getElem? (i := 0) rfl) (by omega) dL_law_1184 dL_law_1185 (Or.inr ⟨dL_law_1187, rfl, rfl⟩) dL_law_1189 dL_law_1190 ?_
  refine lw_cv hE (y' := mX12_isChain) (ci := 12) (r := (RX12, TX12, 45)) (n := 6) (nb := 103) (av := [lw_x E i 1, lw_x E i 2, lw_x E i 3, lw_x E i 4, lw_x E i 5, lw_x E i 6]) (st' := [(0, x)]) (kc' := kc) (ks' := ks) rfl rfl kw_1358 kw_1359 kw_1360 kw_88 kw_1361 ⟨by decide +kernel, by decide +kernel, by decide +kernel⟩ (by decide) dL_law_1191 (lw_cell103 hG) rfl rfl rfl (Nat.le_of_ble_eq_true rfl) (by omega) (by omega) (m_isChain (S := S) hG (fun h0 => ⟨lw_t0, ?_⟩) (fun n0 n1 x' hx' M2 hf => ⟨lw_t0, ?_⟩))
  · rcases hx with ⟨_, rfl⟩ | ⟨hc, _⟩
    · refine lw_ceq hE (tgt := 1199) dL_law_1194 rfl rfl ?_
    
      exact K Γ (ms_up M 103 0 0) S hG (pw_RC_lo hRC (pw_lo_up (by omega) (by omega))) (pw_RM_th hRM) hO
    · exact absurd hc h0
  · have hxx : x = x' := by
      rcases hx with ⟨hn, _⟩ | ⟨_, hx⟩
      · exact absurd ⟨n0, n1⟩ hn
      · rcases hx with ⟨a1, a2⟩ | ⟨a1, a2⟩ <;> rcases hx' with ⟨b1, b2⟩ | ⟨b1, b2⟩
        · omega
        · exact absurd a2 b2
        · exact absurd b2 a2
        · omega
    refine lw_ceq hE (tgt := 1199) dL_law_1194 rfl hxx ?_
  
    exact K (Γ ++ [(100, 6)]) M2 S (pw_G_app hG) (pw_RC_lt (pw_RC_lo hRC (pw_lo_up (by omega) (by omega))) hf) (pw_RM_lt (pw_RM_th hRM) hf) hO
theorem lw_c26 (hE : lw_C E) {i : Nat} (hi : i + 7 ≤ E.L) (hG : pw_G Γ) (hRC : pw_RC M S) (hRM : pw_RM M S) (hO : pw_SO S) (K : lw_next E kc ks i) : lw_W E (kc + 2) (ks + 12) 1112 (lw_ls i) [] Γ M := by
  refine lw_ald hE (n := 1) (a := 0) (by omega) (List.mem_of_getElem? (i := 3) rfl) rfl dL_law_1112 ?_
  refine lw_elm hE (i := i) (k := 1) (q := 1117) (List.mem_of_getElem? (i := 0) rfl) (by omega) dL_law_1113 dL_law_1114 (Or.inl ⟨dL_law_1116, rfl, rfl⟩) dL_law_1117 dL_law_1118 ?_
  refine lw_elm hE (i := i) (k := 2) (q := 1123) (List.mem_of_getElem? (i := 0) rfl) (by omega) dL_law_1119 dL_law_1120 (Or.inl ⟨dL_law_1122, rfl, rfl⟩) dL_law_1123 dL_law_1124 ?_
  refine lw_elm hE (i := i) (k := 3) (q := 1129) (List.mem_of_getElem? (i := 0) rfl) (by omega) dL_law_1125 dL_law_1126 (Or.inl ⟨dL_law_1128, rfl, rfl⟩) dL_law_1129 dL_law_1130 ?_
  refine lw_elm hE (i := i) (k := 4) (q := 1135) (List.mem_of_getElem? (i := 0) rfl) (by omega) dL_law_1131 dL_law_1132 (Or.inl ⟨dL_law_1134, rfl, rfl⟩) dL_law_1135 dL_law_1136 ?_
  refine lw_elm hE (i := i) (k := 5) (q := 1141) (List.mem_of_getElem? (i := 0) rfl) (by omega) dL_law_1137 dL_law_1138 (Or.inl ⟨dL_law_1140, rfl, rfl⟩) dL_law_1141 dL_law_1142 ?_
  refine lw_elm hE (i := i) (k := 6) (q := 1148) (List.mem_of_getElem? (i := 0) rfl) (by omega) dL_law_1143 dL_law_1144 (Or.inr ⟨dL_law_1146, rfl, rfl⟩) dL_law_1148 dL_law_1149 ?_
  refine lw_cv hE (y' := mX11_isChain) (ci := 11) (r := (RX11, TX11, 17)) (n := 6) (nb := 0) (av := [lw_x E i 1, lw_x E i 2, lw_x E i 3, lw_x E i 4, lw_x E i 5, lw_x E i 6]) (st' := []) (kc' := kc + 1) (ks' := ks + 6) rfl rfl kw_822 kw_823 kw_824 kw_76 kw_825 ⟨by decide +kernel, by decide +kernel, by decide +kernel⟩ (by decide) dL_law_1150 (lw_cell0 hG) rfl rfl rfl (Nat.le_of_ble_eq_true rfl) (by omega) (by omega) (c_isChain hG (fun h0 => ⟨lw_t0, ?_⟩) (fun n0 n1 x hx M1 hf => ⟨lw_t0, ?_⟩))
  · exact lw_m26 hE hi hG hRC hRM hO (Or.inl ⟨h0, rfl⟩) K
  · exact lw_m26 hE hi (pw_G_app hG) (pw_RC_lt hRC hf) (pw_RM_lt hRM hf) hO (Or.inr ⟨⟨n0, n1⟩, hx⟩) K
end LWC
