set_option maxHeartbeats 4000000 in
set_option maxRecDepth 20000 in
theorem lcase0 {g : pG} {Qx : Option Value → pW → Prop} {Z : pZ} {n aX aM : Nat} {R : (Nat → Nat → Int32) → (Nat → Nat → Int64) → (Nat → Nat → Option Nat) → Prop} {rc rs z0 s0 i : Nat} {I : (Nat → Nat → Int32)} {L : (Nat → Nat → Int64)} {O : (Nat → Nat → Option Nat)} (hWT : ∀ I L O, R I L O → WT Z O) (hStr : StrOK g) (hZX : Z[aX]? = some (11, 11)) (hZM : Z[aM]? = some (12, 34)) (hbud : Z.length + 0 ≤ z0 + rc) (hbus : pSl Z + 0 ≤ s0 + rs) (hst0 : St0 n aX aM R) (hin1 : vp_in (nI i + 1) (gL g)) (hin2 : vp_in (nI i + 2) (gL g)) (hin3 : vp_in (nI i + 3) (gL g)) (hin4 : vp_in (nI i + 4) (gL g)) (hin5 : vp_in (nI i + 5) (gL g)) (hnext : ∀ I L O, R I L O → Ok g (400, RL, cL_law, 4, false, rc, rs, z0, s0) Qx 1720 [(0, .ref 0), (1, .ref aX), (2, .ref aM), (3, .int (nI i))] [] (Z, I, L, O)) (hR : R I L O) : Ok g (400, RL, cL_law, 4, false, rc, rs, z0, s0) Qx 240 [(0, .ref 0), (1, .ref aX), (2, .ref aM), (3, .int (nI i))] [] (Z, I, L, O) := by
  have hW := hWT I L O hR
  refine ok_aload_n dL_law_240 1 rfl ?_
  refine ok_aload_n dL_law_241 0 rfl ?_
  refine ok_iload_n dL_law_242 3 rfl ?_
  refine ok_iconst (v := 1) dL_law_243 (by decide) ?_
  refine ok_iadd dL_law_244 ?_
  refine ok_sld dL_law_245 hin1 ?_
  obtain ⟨v, I1, I2, hx, hm, hR2⟩ := hst0 I L O (gx g (nI i + 1).toNatClampNeg)  hR
  refine ok_callV (d := (396 + 3)) (mt := m11_roll) (mc := 0) (ms := 0) (As := [.int (gx g (nI i + 1).toNatClampNeg)]) (r := []) dL_law_246 mo11_roll mv11_roll lkRL_13 rfl hZX (q := (RX11, TX11, 11)) rfl rfl rfl (Nat.le_of_ble_eq_true rfl) (Nat.le_of_ble_eq_true rfl) hbud hbus (pRt_mono ?_)
  refine k11_roll 396 hW hZX hx ?_
  intro _
  show Ok g (400, RL, cL_law, 4, false, rc, rs, z0, s0) Qx 249 [(0, .ref 0), (1, .ref aX), (2, .ref aM), (3, .int (nI i))] [.int v] (Z, I1, L, O)
  refine ok_aload_n dL_law_249 2 rfl ?_
  refine ok_aload_n dL_law_250 0 rfl ?_
  refine ok_iload_n dL_law_251 3 rfl ?_
  refine ok_iconst (v := 1) dL_law_252 (by decide) ?_
  refine ok_iadd dL_law_253 ?_
  refine ok_sld dL_law_254 hin1 ?_
  refine ok_callV (d := (396 + 3)) (mt := m12_roll) (mc := 0) (ms := 0) (As := [.int (gx g (nI i + 1).toNatClampNeg)]) (r := [.int v]) dL_law_255 mo12_roll mv12_roll lkRL_17 rfl hZM (q := (RX12, TX12, 34)) rfl rfl rfl (Nat.le_of_ble_eq_true rfl) (Nat.le_of_ble_eq_true rfl) hbud hbus (pRt_mono ?_)
  refine k12_roll 396 hW hZM hm ?_
  intro _
  show Ok g (400, RL, cL_law, 4, false, rc, rs, z0, s0) Qx 258 [(0, .ref 0), (1, .ref aX), (2, .ref aM), (3, .int (nI i))] [.int v, .int v] (Z, I2, L, O)
  refine ok_icmp_eq (t := 1720) dL_law_258 (by decide) (fun _ => ?_) (fun q => absurd rfl q)
  exact hnext _ _ _ hR2
set_option maxHeartbeats 4000000 in
set_option maxRecDepth 20000 in
theorem lcase1 {g : pG} {Qx : Option Value → pW → Prop} {Z : pZ} {n aX aM : Nat} {R : (Nat → Nat → Int32) → (Nat → Nat → Int64) → (Nat → Nat → Option Nat) → Prop} {rc rs z0 s0 i : Nat} {I : (Nat → Nat → Int32)} {L : (Nat → Nat → Int64)} {O : (Nat → Nat → Option Nat)} (hWT : ∀ I L O, R I L O → WT Z O) (hStr : StrOK g) (hZX : Z[aX]? = some (11, 11)) (hZM : Z[aM]? = some (12, 34)) (hbud : Z.length + 0 ≤ z0 + rc) (hbus : pSl Z + 0 ≤ s0 + rs) (hst1 : St1 n aX aM R) (hin1 : vp_in (nI i + 1) (gL g)) (hin2 : vp_in (nI i + 2) (gL g)) (hin3 : vp_in (nI i + 3) (gL g)) (hin4 : vp_in (nI i + 4) (gL g)) (hin5 : vp_in (nI i + 5) (gL g)) (hnext : ∀ I L O, R I L O → Ok g (400, RL, cL_law, 4, false, rc, rs, z0, s0) Qx 1720 [(0, .ref 0), (1, .ref aX), (2, .ref aM), (3, .int (nI i))] [] (Z, I, L, O)) (hR : R I L O) : Ok g (400, RL, cL_law, 4, false, rc, rs, z0, s0) Qx 263 [(0, .ref 0), (1, .ref aX), (2, .ref aM), (3, .int (nI i))] [] (Z, I, L, O) := by
  have hW := hWT I L O hR
  refine ok_aload_n dL_law_263 1 rfl ?_
  refine ok_aload_n dL_law_264 0 rfl ?_
  refine ok_iload_n dL_law_265 3 rfl ?_
  refine ok_iconst (v := 1) dL_law_266 (by decide) ?_
  refine ok_iadd dL_law_267 ?_
  refine ok_sld dL_law_268 hin1 ?_
  refine ok_aload_n dL_law_269 0 rfl ?_
  refine ok_iload_n dL_law_270 3 rfl ?_
  refine ok_iconst (v := 2) dL_law_271 (by decide) ?_
  refine ok_iadd dL_law_272 ?_
  refine ok_sld dL_law_273 hin2 ?_
  refine ok_aload_n dL_law_274 0 rfl ?_
  refine ok_iload_n dL_law_275 3 rfl ?_
  refine ok_iconst (v := 3) dL_law_276 (by decide) ?_
  refine ok_iadd dL_law_277 ?_
  refine ok_sld dL_law_278 hin3 ?_
  obtain ⟨v, I1, I2, hx, hm, hR2⟩ := hst1 I L O (gx g (nI i + 1).toNatClampNeg) (gx g (nI i + 2).toNatClampNeg) (gx g (nI i + 3).toNatClampNeg)  hR
  refine ok_callV (d := (396 + 3)) (mt := m11_hole) (mc := 0) (ms := 0) (As := [.int (gx g (nI i + 1).toNatClampNeg), .int (gx g (nI i + 2).toNatClampNeg), .int (gx g (nI i + 3).toNatClampNeg)]) (r := []) dL_law_279 mo11_hole mv11_hole lkRL_18 rfl hZX (q := (RX11, TX11, 11)) rfl rfl rfl (Nat.le_of_ble_eq_true rfl) (Nat.le_of_ble_eq_true rfl) hbud hbus (pRt_mono ?_)
  refine k11_hole 396 hW hZX hx ?_
  intro _
  show Ok g (400, RL, cL_law, 4, false, rc, rs, z0, s0) Qx 282 [(0, .ref 0), (1, .ref aX), (2, .ref aM), (3, .int (nI i))] [.int v] (Z, I1, L, O)
  refine ok_aload_n dL_law_282 2 rfl ?_
  refine ok_aload_n dL_law_283 0 rfl ?_
  refine ok_iload_n dL_law_284 3 rfl ?_
  refine ok_iconst (v := 1) dL_law_285 (by decide) ?_
  refine ok_iadd dL_law_286 ?_
  refine ok_sld dL_law_287 hin1 ?_
  refine ok_aload_n dL_law_288 0 rfl ?_
  refine ok_iload_n dL_law_289 3 rfl ?_
  refine ok_iconst (v := 2) dL_law_290 (by decide) ?_
  refine ok_iadd dL_law_291 ?_
  refine ok_sld dL_law_292 hin2 ?_
  refine ok_aload_n dL_law_293 0 rfl ?_
  refine ok_iload_n dL_law_294 3 rfl ?_
  refine ok_iconst (v := 3) dL_law_295 (by decide) ?_
  refine ok_iadd dL_law_296 ?_
  refine ok_sld dL_law_297 hin3 ?_
  refine ok_callV (d := (394 + 5)) (mt := m12_hole) (mc := 0) (ms := 0) (As := [.int (gx g (nI i + 1).toNatClampNeg), .int (gx g (nI i + 2).toNatClampNeg), .int (gx g (nI i + 3).toNatClampNeg)]) (r := [.int v]) dL_law_298 mo12_hole mv12_hole lkRL_22 rfl hZM (q := (RX12, TX12, 34)) rfl rfl rfl (Nat.le_of_ble_eq_true rfl) (Nat.le_of_ble_eq_true rfl) hbud hbus (pRt_mono ?_)
  refine k12_hole 394 hW hZM hm ?_
  intro _
  show Ok g (400, RL, cL_law, 4, false, rc, rs, z0, s0) Qx 301 [(0, .ref 0), (1, .ref aX), (2, .ref aM), (3, .int (nI i))] [.int v, .int v] (Z, I2, L, O)
  refine ok_icmp_eq (t := 1720) dL_law_301 (by decide) (fun _ => ?_) (fun q => absurd rfl q)
  exact hnext _ _ _ hR2
set_option maxHeartbeats 4000000 in
set_option maxRecDepth 20000 in
theorem lcase2 {g : pG} {Qx : Option Value → pW → Prop} {Z : pZ} {n aX aM : Nat} {R : (Nat → Nat → Int32) → (Nat → Nat → Int64) → (Nat → Nat → Option Nat) → Prop} {rc rs z0 s0 i : Nat} {I : (Nat → Nat → Int32)} {L : (Nat → Nat → Int64)} {O : (Nat → Nat → Option Nat)} (hWT : ∀ I L O, R I L O → WT Z O) (hStr : StrOK g) (hZX : Z[aX]? = some (11, 11)) (hZM : Z[aM]? = some (12, 34)) (hbud : Z.length + 0 ≤ z0 + rc) (hbus : pSl Z + 0 ≤ s0 + rs) (hst2 : St2 n aX aM R) (hin1 : vp_in (nI i + 1) (gL g)) (hin2 : vp_in (nI i + 2) (gL g)) (hin3 : vp_in (nI i + 3) (gL g)) (hin4 : vp_in (nI i + 4) (gL g)) (hin5 : vp_in (nI i + 5) (gL g)) (hnext : ∀ I L O, R I L O → Ok g (400, RL, cL_law, 4, false, rc, rs, z0, s0) Qx 1720 [(0, .ref 0), (1, .ref aX), (2, .ref aM), (3, .int (nI i))] [] (Z, I, L, O)) (hR : R I L O) : Ok g (400, RL, cL_law, 4, false, rc, rs, z0, s0) Qx 306 [(0, .ref 0), (1, .ref aX), (2, .ref aM), (3, .int (nI i))] [] (Z, I, L, O) := by
  have hW := hWT I L O hR
  refine ok_aload_n dL_law_306 1 rfl ?_
  refine ok_aload_n dL_law_307 0 rfl ?_
  refine ok_iload_n dL_law_308 3 rfl ?_
  refine ok_iconst (v := 1) dL_law_309 (by decide) ?_
  refine ok_iadd dL_law_310 ?_
  refine ok_sld dL_law_311 hin1 ?_
  refine ok_aload_n dL_law_312 0 rfl ?_
  refine ok_iload_n dL_law_313 3 rfl ?_
  refine ok_iconst (v := 2) dL_law_314 (by decide) ?_
  refine ok_iadd dL_law_315 ?_
  refine ok_sld dL_law_316 hin2 ?_
  refine ok_aload_n dL_law_317 0 rfl ?_
  refine ok_iload_n dL_law_318 3 rfl ?_
  refine ok_iconst (v := 3) dL_law_319 (by decide) ?_
  refine ok_iadd dL_law_320 ?_
  refine ok_sld dL_law_321 hin3 ?_
  obtain ⟨v, I1, I2, hx, hm, hR2⟩ := hst2 I L O (gx g (nI i + 1).toNatClampNeg) (gx g (nI i + 2).toNatClampNeg) (gx g (nI i + 3).toNatClampNeg)  hR
  refine ok_callV (d := (396 + 3)) (mt := m11_worn) (mc := 0) (ms := 0) (As := [.int (gx g (nI i + 1).toNatClampNeg), .int (gx g (nI i + 2).toNatClampNeg), .int (gx g (nI i + 3).toNatClampNeg)]) (r := []) dL_law_322 mo11_worn mv11_worn lkRL_23 rfl hZX (q := (RX11, TX11, 11)) rfl rfl rfl (Nat.le_of_ble_eq_true rfl) (Nat.le_of_ble_eq_true rfl) hbud hbus (pRt_mono ?_)
  refine k11_worn 396 hW hZX hx ?_
  intro _
  show Ok g (400, RL, cL_law, 4, false, rc, rs, z0, s0) Qx 325 [(0, .ref 0), (1, .ref aX), (2, .ref aM), (3, .int (nI i))] [.int v] (Z, I1, L, O)
  refine ok_aload_n dL_law_325 2 rfl ?_
  refine ok_aload_n dL_law_326 0 rfl ?_
  refine ok_iload_n dL_law_327 3 rfl ?_
  refine ok_iconst (v := 1) dL_law_328 (by decide) ?_
  refine ok_iadd dL_law_329 ?_
  refine ok_sld dL_law_330 hin1 ?_
  refine ok_aload_n dL_law_331 0 rfl ?_
  refine ok_iload_n dL_law_332 3 rfl ?_
  refine ok_iconst (v := 2) dL_law_333 (by decide) ?_
  refine ok_iadd dL_law_334 ?_
  refine ok_sld dL_law_335 hin2 ?_
  refine ok_aload_n dL_law_336 0 rfl ?_
  refine ok_iload_n dL_law_337 3 rfl ?_
  refine ok_iconst (v := 3) dL_law_338 (by decide) ?_
  refine ok_iadd dL_law_339 ?_
  refine ok_sld dL_law_340 hin3 ?_
  refine ok_callV (d := (394 + 5)) (mt := m12_worn) (mc := 0) (ms := 0) (As := [.int (gx g (nI i + 1).toNatClampNeg), .int (gx g (nI i + 2).toNatClampNeg), .int (gx g (nI i + 3).toNatClampNeg)]) (r := [.int v]) dL_law_341 mo12_worn mv12_worn lkRL_26 rfl hZM (q := (RX12, TX12, 34)) rfl rfl rfl (Nat.le_of_ble_eq_true rfl) (Nat.le_of_ble_eq_true rfl) hbud hbus (pRt_mono ?_)
  refine k12_worn 394 hW hZM hm ?_
  intro _
  show Ok g (400, RL, cL_law, 4, false, rc, rs, z0, s0) Qx 344 [(0, .ref 0), (1, .ref aX), (2, .ref aM), (3, .int (nI i))] [.int v, .int v] (Z, I2, L, O)
  refine ok_icmp_eq (t := 1720) dL_law_344 (by decide) (fun _ => ?_) (fun q => absurd rfl q)
  exact hnext _ _ _ hR2
set_option maxHeartbeats 4000000 in
set_option maxRecDepth 20000 in
theorem lcase3 {g : pG} {Qx : Option Value → pW → Prop} {Z : pZ} {n aX aM : Nat} {R : (Nat → Nat → Int32) → (Nat → Nat → Int64) → (Nat → Nat → Option Nat) → Prop} {rc rs z0 s0 i : Nat} {I : (Nat → Nat → Int32)} {L : (Nat → Nat → Int64)} {O : (Nat → Nat → Option Nat)} (hWT : ∀ I L O, R I L O → WT Z O) (hStr : StrOK g) (hZX : Z[aX]? = some (11, 11)) (hZM : Z[aM]? = some (12, 34)) (hbud : Z.length + 0 ≤ z0 + rc) (hbus : pSl Z + 0 ≤ s0 + rs) (hst3 : St3 n aX aM R) (hin1 : vp_in (nI i + 1) (gL g)) (hin2 : vp_in (nI i + 2) (gL g)) (hin3 : vp_in (nI i + 3) (gL g)) (hin4 : vp_in (nI i + 4) (gL g)) (hin5 : vp_in (nI i + 5) (gL g)) (hnext : ∀ I L O, R I L O → Ok g (400, RL, cL_law, 4, false, rc, rs, z0, s0) Qx 1720 [(0, .ref 0), (1, .ref aX), (2, .ref aM), (3, .int (nI i))] [] (Z, I, L, O)) (hR : R I L O) : Ok g (400, RL, cL_law, 4, false, rc, rs, z0, s0) Qx 349 [(0, .ref 0), (1, .ref aX), (2, .ref aM), (3, .int (nI i))] [] (Z, I, L, O) := by
  have hW := hWT I L O hR
  refine ok_aload_n dL_law_349 1 rfl ?_
  obtain ⟨v, I1, I2, hx, hm, hR2⟩ := hst3 I L O   hR
  refine ok_callV (d := (396 + 3)) (mt := m11_child) (mc := 0) (ms := 0) (As := []) (r := []) dL_law_350 mo11_child mv11_child lkRL_27 rfl hZX (q := (RX11, TX11, 11)) rfl rfl rfl (Nat.le_of_ble_eq_true rfl) (Nat.le_of_ble_eq_true rfl) hbud hbus (pRt_mono ?_)
  refine k11_child 396 hW hZX hx ?_
  intro _
  show Ok g (400, RL, cL_law, 4, false, rc, rs, z0, s0) Qx 353 [(0, .ref 0), (1, .ref aX), (2, .ref aM), (3, .int (nI i))] [.int v] (Z, I1, L, O)
  refine ok_aload_n dL_law_353 2 rfl ?_
  refine ok_callV (d := (397 + 2)) (mt := m12_child) (mc := 0) (ms := 0) (As := []) (r := [.int v]) dL_law_354 mo12_child mv12_child lkRL_31 rfl hZM (q := (RX12, TX12, 34)) rfl rfl rfl (Nat.le_of_ble_eq_true rfl) (Nat.le_of_ble_eq_true rfl) hbud hbus (pRt_mono ?_)
  refine k12_child 397 hW hZM hm ?_
  intro _
  show Ok g (400, RL, cL_law, 4, false, rc, rs, z0, s0) Qx 357 [(0, .ref 0), (1, .ref aX), (2, .ref aM), (3, .int (nI i))] [.int v, .int v] (Z, I2, L, O)
  refine ok_icmp_eq (t := 1720) dL_law_357 (by decide) (fun _ => ?_) (fun q => absurd rfl q)
  exact hnext _ _ _ hR2
set_option maxHeartbeats 4000000 in
set_option maxRecDepth 20000 in
theorem lcase4 {g : pG} {Qx : Option Value → pW → Prop} {Z : pZ} {n aX aM : Nat} {R : (Nat → Nat → Int32) → (Nat → Nat → Int64) → (Nat → Nat → Option Nat) → Prop} {rc rs z0 s0 i : Nat} {I : (Nat → Nat → Int32)} {L : (Nat → Nat → Int64)} {O : (Nat → Nat → Option Nat)} (hWT : ∀ I L O, R I L O → WT Z O) (hStr : StrOK g) (hZX : Z[aX]? = some (11, 11)) (hZM : Z[aM]? = some (12, 34)) (hbud : Z.length + 0 ≤ z0 + rc) (hbus : pSl Z + 0 ≤ s0 + rs) (hst4 : St4 n aX aM R) (hin1 : vp_in (nI i + 1) (gL g)) (hin2 : vp_in (nI i + 2) (gL g)) (hin3 : vp_in (nI i + 3) (gL g)) (hin4 : vp_in (nI i + 4) (gL g)) (hin5 : vp_in (nI i + 5) (gL g)) (hnext : ∀ I L O, R I L O → Ok g (400, RL, cL_law, 4, false, rc, rs, z0, s0) Qx 1720 [(0, .ref 0), (1, .ref aX), (2, .ref aM), (3, .int (nI i))] [] (Z, I, L, O)) (hR : R I L O) : Ok g (400, RL, cL_law, 4, false, rc, rs, z0, s0) Qx 362 [(0, .ref 0), (1, .ref aX), (2, .ref aM), (3, .int (nI i))] [] (Z, I, L, O) := by
  have hW := hWT I L O hR
  refine ok_aload_n dL_law_362 1 rfl ?_
  refine ok_aload_n dL_law_363 0 rfl ?_
  refine ok_iload_n dL_law_364 3 rfl ?_
  refine ok_iconst (v := 1) dL_law_365 (by decide) ?_
  refine ok_iadd dL_law_366 ?_
  refine ok_sld dL_law_367 hin1 ?_
  refine ok_aload_n dL_law_368 0 rfl ?_
  refine ok_iload_n dL_law_369 3 rfl ?_
  refine ok_iconst (v := 2) dL_law_370 (by decide) ?_
  refine ok_iadd dL_law_371 ?_
  refine ok_sld dL_law_372 hin2 ?_
  refine ok_aload_n dL_law_373 0 rfl ?_
  refine ok_iload_n dL_law_374 3 rfl ?_
  refine ok_iconst (v := 3) dL_law_375 (by decide) ?_
  refine ok_iadd dL_law_376 ?_
  refine ok_sld dL_law_377 hin3 ?_
  refine ok_aload_n dL_law_378 0 rfl ?_
  refine ok_iload_n dL_law_379 3 rfl ?_
  refine ok_iconst (v := 4) dL_law_380 (by decide) ?_
  refine ok_iadd dL_law_381 ?_
  refine ok_sld dL_law_382 hin4 ?_
  refine ok_aload_n dL_law_383 0 rfl ?_
  refine ok_iload_n dL_law_384 3 rfl ?_
  refine ok_iconst (v := 5) dL_law_385 (by decide) ?_
  refine ok_iadd dL_law_386 ?_
  refine ok_sld dL_law_387 hin5 ?_
  obtain ⟨v, I1, I2, hx, hm, hR2⟩ := hst4 I L O (gx g (nI i + 1).toNatClampNeg) (gx g (nI i + 2).toNatClampNeg) (gx g (nI i + 3).toNatClampNeg) (gx g (nI i + 4).toNatClampNeg) (gx g (nI i + 5).toNatClampNeg)  hR
  refine ok_callV (d := (396 + 3)) (mt := m11_feed) (mc := 0) (ms := 0) (As := [.int (gx g (nI i + 1).toNatClampNeg), .int (gx g (nI i + 2).toNatClampNeg), .int (gx g (nI i + 3).toNatClampNeg), .int (gx g (nI i + 4).toNatClampNeg), .int (gx g (nI i + 5).toNatClampNeg)]) (r := []) dL_law_388 mo11_feed mv11_feed lkRL_32 rfl hZX (q := (RX11, TX11, 11)) rfl rfl rfl (Nat.le_of_ble_eq_true rfl) (Nat.le_of_ble_eq_true rfl) hbud hbus (pRt_mono ?_)
  refine k11_feed 396 hW hZX hx ?_
  intro _
  show Ok g (400, RL, cL_law, 4, false, rc, rs, z0, s0) Qx 391 [(0, .ref 0), (1, .ref aX), (2, .ref aM), (3, .int (nI i))] [.int v] (Z, I1, L, O)
  refine ok_aload_n dL_law_391 2 rfl ?_
  refine ok_aload_n dL_law_392 0 rfl ?_
  refine ok_iload_n dL_law_393 3 rfl ?_
  refine ok_iconst (v := 1) dL_law_394 (by decide) ?_
  refine ok_iadd dL_law_395 ?_
  refine ok_sld dL_law_396 hin1 ?_
  refine ok_aload_n dL_law_397 0 rfl ?_
  refine ok_iload_n dL_law_398 3 rfl ?_
  refine ok_iconst (v := 2) dL_law_399 (by decide) ?_
  refine ok_iadd dL_law_400 ?_
  refine ok_sld dL_law_401 hin2 ?_
  refine ok_aload_n dL_law_402 0 rfl ?_
  refine ok_iload_n dL_law_403 3 rfl ?_
  refine ok_iconst (v := 3) dL_law_404 (by decide) ?_
  refine ok_iadd dL_law_405 ?_
  refine ok_sld dL_law_406 hin3 ?_
  refine ok_aload_n dL_law_407 0 rfl ?_
  refine ok_iload_n dL_law_408 3 rfl ?_
  refine ok_iconst (v := 4) dL_law_409 (by decide) ?_
  refine ok_iadd dL_law_410 ?_
  refine ok_sld dL_law_411 hin4 ?_
  refine ok_aload_n dL_law_412 0 rfl ?_
  refine ok_iload_n dL_law_413 3 rfl ?_
  refine ok_iconst (v := 5) dL_law_414 (by decide) ?_
  refine ok_iadd dL_law_415 ?_
  refine ok_sld dL_law_416 hin5 ?_
  refine ok_callV (d := (396 + 3)) (mt := m12_feed) (mc := 0) (ms := 0) (As := [.int (gx g (nI i + 1).toNatClampNeg), .int (gx g (nI i + 2).toNatClampNeg), .int (gx g (nI i + 3).toNatClampNeg), .int (gx g (nI i + 4).toNatClampNeg), .int (gx g (nI i + 5).toNatClampNeg)]) (r := [.int v]) dL_law_417 mo12_feed mv12_feed lkRL_36 rfl hZM (q := (RX12, TX12, 34)) rfl rfl rfl (Nat.le_of_ble_eq_true rfl) (Nat.le_of_ble_eq_true rfl) hbud hbus (pRt_mono ?_)
  refine k12_feed 396 hW hZM hm ?_
  intro _
  show Ok g (400, RL, cL_law, 4, false, rc, rs, z0, s0) Qx 420 [(0, .ref 0), (1, .ref aX), (2, .ref aM), (3, .int (nI i))] [.int v, .int v] (Z, I2, L, O)
  refine ok_icmp_eq (t := 1720) dL_law_420 (by decide) (fun _ => ?_) (fun q => absurd rfl q)
  exact hnext _ _ _ hR2
set_option maxHeartbeats 4000000 in
set_option maxRecDepth 20000 in
theorem lcase5 {g : pG} {Qx : Option Value → pW → Prop} {Z : pZ} {n aX aM : Nat} {R : (Nat → Nat → Int32) → (Nat → Nat → Int64) → (Nat → Nat → Option Nat) → Prop} {rc rs z0 s0 i : Nat} {I : (Nat → Nat → Int32)} {L : (Nat → Nat → Int64)} {O : (Nat → Nat → Option Nat)} (hWT : ∀ I L O, R I L O → WT Z O) (hStr : StrOK g) (hZX : Z[aX]? = some (11, 11)) (hZM : Z[aM]? = some (12, 34)) (hbud : Z.length + 0 ≤ z0 + rc) (hbus : pSl Z + 0 ≤ s0 + rs) (hst5 : St5 n aX aM R) (hin1 : vp_in (nI i + 1) (gL g)) (hin2 : vp_in (nI i + 2) (gL g)) (hin3 : vp_in (nI i + 3) (gL g)) (hin4 : vp_in (nI i + 4) (gL g)) (hin5 : vp_in (nI i + 5) (gL g)) (hnext : ∀ I L O, R I L O → Ok g (400, RL, cL_law, 4, false, rc, rs, z0, s0) Qx 1720 [(0, .ref 0), (1, .ref aX), (2, .ref aM), (3, .int (nI i))] [] (Z, I, L, O)) (hR : R I L O) : Ok g (400, RL, cL_law, 4, false, rc, rs, z0, s0) Qx 425 [(0, .ref 0), (1, .ref aX), (2, .ref aM), (3, .int (nI i))] [] (Z, I, L, O) := by
  have hW := hWT I L O hR
  refine ok_aload_n dL_law_425 1 rfl ?_
  refine ok_aload_n dL_law_426 0 rfl ?_
  refine ok_iload_n dL_law_427 3 rfl ?_
  refine ok_iconst (v := 1) dL_law_428 (by decide) ?_
  refine ok_iadd dL_law_429 ?_
  refine ok_sld dL_law_430 hin1 ?_
  obtain ⟨v, I1, I2, hx, hm, hR2⟩ := hst5 I L O (gx g (nI i + 1).toNatClampNeg)  hR
  refine ok_callV (d := (397 + 2)) (mt := m11_end) (mc := 0) (ms := 0) (As := [.int (gx g (nI i + 1).toNatClampNeg)]) (r := []) dL_law_431 mo11_end mv11_end lkRL_37 rfl hZX (q := (RX11, TX11, 11)) rfl rfl rfl (Nat.le_of_ble_eq_true rfl) (Nat.le_of_ble_eq_true rfl) hbud hbus (pRt_mono ?_)
  refine k11_end 397 hW hZX hx ?_
  intro _
  show Ok g (400, RL, cL_law, 4, false, rc, rs, z0, s0) Qx 434 [(0, .ref 0), (1, .ref aX), (2, .ref aM), (3, .int (nI i))] [.int v] (Z, I1, L, O)
  refine ok_aload_n dL_law_434 2 rfl ?_
  refine ok_aload_n dL_law_435 0 rfl ?_
  refine ok_iload_n dL_law_436 3 rfl ?_
  refine ok_iconst (v := 1) dL_law_437 (by decide) ?_
  refine ok_iadd dL_law_438 ?_
  refine ok_sld dL_law_439 hin1 ?_
  refine ok_callV (d := (396 + 3)) (mt := m12_end) (mc := 0) (ms := 0) (As := [.int (gx g (nI i + 1).toNatClampNeg)]) (r := [.int v]) dL_law_440 mo12_end mv12_end lkRL_40 rfl hZM (q := (RX12, TX12, 34)) rfl rfl rfl (Nat.le_of_ble_eq_true rfl) (Nat.le_of_ble_eq_true rfl) hbud hbus (pRt_mono ?_)
  refine k12_end 396 hW hZM hm ?_
  intro _
  show Ok g (400, RL, cL_law, 4, false, rc, rs, z0, s0) Qx 443 [(0, .ref 0), (1, .ref aX), (2, .ref aM), (3, .int (nI i))] [.int v, .int v] (Z, I2, L, O)
  refine ok_icmp_eq (t := 1720) dL_law_443 (by decide) (fun _ => ?_) (fun q => absurd rfl q)
  exact hnext _ _ _ hR2
set_option maxHeartbeats 4000000 in
set_option maxRecDepth 20000 in
theorem lcase6 {g : pG} {Qx : Option Value → pW → Prop} {Z : pZ} {n aX aM : Nat} {R : (Nat → Nat → Int32) → (Nat → Nat → Int64) → (Nat → Nat → Option Nat) → Prop} {rc rs z0 s0 i : Nat} {I : (Nat → Nat → Int32)} {L : (Nat → Nat → Int64)} {O : (Nat → Nat → Option Nat)} (hWT : ∀ I L O, R I L O → WT Z O) (hStr : StrOK g) (hZX : Z[aX]? = some (11, 11)) (hZM : Z[aM]? = some (12, 34)) (hbud : Z.length + 0 ≤ z0 + rc) (hbus : pSl Z + 0 ≤ s0 + rs) (hst6 : St6 n aX aM R) (hin1 : vp_in (nI i + 1) (gL g)) (hin2 : vp_in (nI i + 2) (gL g)) (hin3 : vp_in (nI i + 3) (gL g)) (hin4 : vp_in (nI i + 4) (gL g)) (hin5 : vp_in (nI i + 5) (gL g)) (hnext : ∀ I L O, R I L O → Ok g (400, RL, cL_law, 4, false, rc, rs, z0, s0) Qx 1720 [(0, .ref 0), (1, .ref aX), (2, .ref aM), (3, .int (nI i))] [] (Z, I, L, O)) (hR : R I L O) : Ok g (400, RL, cL_law, 4, false, rc, rs, z0, s0) Qx 448 [(0, .ref 0), (1, .ref aX), (2, .ref aM), (3, .int (nI i))] [] (Z, I, L, O) := by
  have hW := hWT I L O hR
  refine ok_aload_n dL_law_448 1 rfl ?_
  obtain ⟨v, I1, I2, L2, O1, hx, hm, hR2⟩ := hst6 I L O   hR
  refine ok_callV (d := (291 + 108)) (mt := m11_text) (mc := 0) (ms := 0) (As := []) (r := []) dL_law_449 mo11_text mv11_text lkRL_41 rfl hZX (q := (RX11, TX11, 11)) rfl rfl rfl (Nat.le_of_ble_eq_true rfl) (Nat.le_of_ble_eq_true rfl) hbud hbus (pRt_mono ?_)
  refine k11_text 291 hW hStr hZX hx ?_
  intro _
  show Ok g (400, RL, cL_law, 4, false, rc, rs, z0, s0) Qx 452 [(0, .ref 0), (1, .ref aX), (2, .ref aM), (3, .int (nI i))] [.int v] (Z, I1, L, O1)
  have hW1 : WT Z O1 := w11_text hW hZX hx
  refine ok_aload_n dL_law_452 2 rfl ?_
  refine ok_callV (d := (385 + 14)) (mt := m12_text) (mc := 0) (ms := 0) (As := []) (r := [.int v]) dL_law_453 mo12_text mv12_text lkRL_44 rfl hZM (q := (RX12, TX12, 34)) rfl rfl rfl (Nat.le_of_ble_eq_true rfl) (Nat.le_of_ble_eq_true rfl) hbud hbus (pRt_mono ?_)
  refine k12_text 385 hW1 hZM hm ?_
  intro _
  show Ok g (400, RL, cL_law, 4, false, rc, rs, z0, s0) Qx 456 [(0, .ref 0), (1, .ref aX), (2, .ref aM), (3, .int (nI i))] [.int v, .int v] (Z, I2, L2, O1)
  refine ok_icmp_eq (t := 1720) dL_law_456 (by decide) (fun _ => ?_) (fun q => absurd rfl q)
  exact hnext _ _ _ hR2
set_option maxHeartbeats 4000000 in
set_option maxRecDepth 20000 in
theorem lcase7 {g : pG} {Qx : Option Value → pW → Prop} {Z : pZ} {n aX aM : Nat} {R : (Nat → Nat → Int32) → (Nat → Nat → Int64) → (Nat → Nat → Option Nat) → Prop} {rc rs z0 s0 i : Nat} {I : (Nat → Nat → Int32)} {L : (Nat → Nat → Int64)} {O : (Nat → Nat → Option Nat)} (hWT : ∀ I L O, R I L O → WT Z O) (hStr : StrOK g) (hZX : Z[aX]? = some (11, 11)) (hZM : Z[aM]? = some (12, 34)) (hbud : Z.length + 0 ≤ z0 + rc) (hbus : pSl Z + 0 ≤ s0 + rs) (hst7 : St7 n aX aM R) (hin1 : vp_in (nI i + 1) (gL g)) (hin2 : vp_in (nI i + 2) (gL g)) (hin3 : vp_in (nI i + 3) (gL g)) (hin4 : vp_in (nI i + 4) (gL g)) (hin5 : vp_in (nI i + 5) (gL g)) (hnext : ∀ I L O, R I L O → Ok g (400, RL, cL_law, 4, false, rc, rs, z0, s0) Qx 1720 [(0, .ref 0), (1, .ref aX), (2, .ref aM), (3, .int (nI i))] [] (Z, I, L, O)) (hR : R I L O) : Ok g (400, RL, cL_law, 4, false, rc, rs, z0, s0) Qx 461 [(0, .ref 0), (1, .ref aX), (2, .ref aM), (3, .int (nI i))] [] (Z, I, L, O) := by
  have hW := hWT I L O hR
  refine ok_aload_n dL_law_461 1 rfl ?_
  refine ok_aload_n dL_law_462 0 rfl ?_
  refine ok_iload_n dL_law_463 3 rfl ?_
  refine ok_iconst (v := 1) dL_law_464 (by decide) ?_
  refine ok_iadd dL_law_465 ?_
  refine ok_sld dL_law_466 hin1 ?_
  obtain ⟨v, hx, hm, hR2⟩ := hst7 I L O (gx g (nI i + 1).toNatClampNeg)  hR
  refine ok_callV (d := (397 + 2)) (mt := m11_fault) (mc := 0) (ms := 0) (As := [.int (gx g (nI i + 1).toNatClampNeg)]) (r := []) dL_law_467 mo11_fault mv11_fault lkRL_45 rfl hZX (q := (RX11, TX11, 11)) rfl rfl rfl (Nat.le_of_ble_eq_true rfl) (Nat.le_of_ble_eq_true rfl) hbud hbus (pRt_mono ?_)
  refine k11_fault 397 hW hZX hx ?_
  intro _
  show Ok g (400, RL, cL_law, 4, false, rc, rs, z0, s0) Qx 470 [(0, .ref 0), (1, .ref aX), (2, .ref aM), (3, .int (nI i))] [.int v] (Z, I, L, O)
  refine ok_aload_n dL_law_470 2 rfl ?_
  refine ok_aload_n dL_law_471 0 rfl ?_
  refine ok_iload_n dL_law_472 3 rfl ?_
  refine ok_iconst (v := 1) dL_law_473 (by decide) ?_
  refine ok_iadd dL_law_474 ?_
  refine ok_sld dL_law_475 hin1 ?_
  refine ok_callV (d := (397 + 2)) (mt := m12_fault) (mc := 0) (ms := 0) (As := [.int (gx g (nI i + 1).toNatClampNeg)]) (r := [.int v]) dL_law_476 mo12_fault mv12_fault lkRL_48 rfl hZM (q := (RX12, TX12, 34)) rfl rfl rfl (Nat.le_of_ble_eq_true rfl) (Nat.le_of_ble_eq_true rfl) hbud hbus (pRt_mono ?_)
  refine k12_fault 397 hW hZM hm ?_
  intro _
  show Ok g (400, RL, cL_law, 4, false, rc, rs, z0, s0) Qx 479 [(0, .ref 0), (1, .ref aX), (2, .ref aM), (3, .int (nI i))] [.int v, .int v] (Z, I, L, O)
  refine ok_icmp_eq (t := 1720) dL_law_479 (by decide) (fun _ => ?_) (fun q => absurd rfl q)
  exact hnext _ _ _ hR2
set_option maxHeartbeats 4000000 in
set_option maxRecDepth 20000 in
theorem lcase8 {g : pG} {Qx : Option Value → pW → Prop} {Z : pZ} {n aX aM : Nat} {R : (Nat → Nat → Int32) → (Nat → Nat → Int64) → (Nat → Nat → Option Nat) → Prop} {rc rs z0 s0 i : Nat} {I : (Nat → Nat → Int32)} {L : (Nat → Nat → Int64)} {O : (Nat → Nat → Option Nat)} (hWT : ∀ I L O, R I L O → WT Z O) (hStr : StrOK g) (hZX : Z[aX]? = some (11, 11)) (hZM : Z[aM]? = some (12, 34)) (hbud : Z.length + 0 ≤ z0 + rc) (hbus : pSl Z + 0 ≤ s0 + rs) (hst8 : St8 n aX aM R) (hin1 : vp_in (nI i + 1) (gL g)) (hin2 : vp_in (nI i + 2) (gL g)) (hin3 : vp_in (nI i + 3) (gL g)) (hin4 : vp_in (nI i + 4) (gL g)) (hin5 : vp_in (nI i + 5) (gL g)) (hnext : ∀ I L O, R I L O → Ok g (400, RL, cL_law, 4, false, rc, rs, z0, s0) Qx 1720 [(0, .ref 0), (1, .ref aX), (2, .ref aM), (3, .int (nI i))] [] (Z, I, L, O)) (hR : R I L O) : Ok g (400, RL, cL_law, 4, false, rc, rs, z0, s0) Qx 484 [(0, .ref 0), (1, .ref aX), (2, .ref aM), (3, .int (nI i))] [] (Z, I, L, O) := by
  have hW := hWT I L O hR
  refine ok_aload_n dL_law_484 1 rfl ?_
  refine ok_aload_n dL_law_485 0 rfl ?_
  refine ok_iload_n dL_law_486 3 rfl ?_
  refine ok_iconst (v := 1) dL_law_487 (by decide) ?_
  refine ok_iadd dL_law_488 ?_
  refine ok_sld dL_law_489 hin1 ?_
  obtain ⟨v, I1, I2, hx, hm, hR2⟩ := hst8 I L O (gx g (nI i + 1).toNatClampNeg)  hR
  refine ok_callV (d := (396 + 3)) (mt := m11_by) (mc := 0) (ms := 0) (As := [.int (gx g (nI i + 1).toNatClampNeg)]) (r := []) dL_law_490 mo11_by mv11_by lkRL_49 rfl hZX (q := (RX11, TX11, 11)) rfl rfl rfl (Nat.le_of_ble_eq_true rfl) (Nat.le_of_ble_eq_true rfl) hbud hbus (pRt_mono ?_)
  refine k11_by 396 hW hZX hx ?_
  intro _
  show Ok g (400, RL, cL_law, 4, false, rc, rs, z0, s0) Qx 493 [(0, .ref 0), (1, .ref aX), (2, .ref aM), (3, .int (nI i))] [.int v] (Z, I1, L, O)
  refine ok_aload_n dL_law_493 2 rfl ?_
  refine ok_aload_n dL_law_494 0 rfl ?_
  refine ok_iload_n dL_law_495 3 rfl ?_
  refine ok_iconst (v := 1) dL_law_496 (by decide) ?_
  refine ok_iadd dL_law_497 ?_
  refine ok_sld dL_law_498 hin1 ?_
  refine ok_callV (d := (396 + 3)) (mt := m12_by) (mc := 0) (ms := 0) (As := [.int (gx g (nI i + 1).toNatClampNeg)]) (r := [.int v]) dL_law_499 mo12_by mv12_by lkRL_53 rfl hZM (q := (RX12, TX12, 34)) rfl rfl rfl (Nat.le_of_ble_eq_true rfl) (Nat.le_of_ble_eq_true rfl) hbud hbus (pRt_mono ?_)
  refine k12_by 396 hW hZM hm ?_
  intro _
  show Ok g (400, RL, cL_law, 4, false, rc, rs, z0, s0) Qx 502 [(0, .ref 0), (1, .ref aX), (2, .ref aM), (3, .int (nI i))] [.int v, .int v] (Z, I2, L, O)
  refine ok_icmp_eq (t := 1720) dL_law_502 (by decide) (fun _ => ?_) (fun q => absurd rfl q)
  exact hnext _ _ _ hR2
set_option maxHeartbeats 4000000 in
set_option maxRecDepth 20000 in
theorem lcase9 {g : pG} {Qx : Option Value → pW → Prop} {Z : pZ} {n aX aM : Nat} {R : (Nat → Nat → Int32) → (Nat → Nat → Int64) → (Nat → Nat → Option Nat) → Prop} {rc rs z0 s0 i : Nat} {I : (Nat → Nat → Int32)} {L : (Nat → Nat → Int64)} {O : (Nat → Nat → Option Nat)} (hWT : ∀ I L O, R I L O → WT Z O) (hStr : StrOK g) (hZX : Z[aX]? = some (11, 11)) (hZM : Z[aM]? = some (12, 34)) (hbud : Z.length + 0 ≤ z0 + rc) (hbus : pSl Z + 0 ≤ s0 + rs) (hst9 : St9 n aX aM R) (hin1 : vp_in (nI i + 1) (gL g)) (hin2 : vp_in (nI i + 2) (gL g)) (hin3 : vp_in (nI i + 3) (gL g)) (hin4 : vp_in (nI i + 4) (gL g)) (hin5 : vp_in (nI i + 5) (gL g)) (hnext : ∀ I L O, R I L O → Ok g (400, RL, cL_law, 4, false, rc, rs, z0, s0) Qx 1720 [(0, .ref 0), (1, .ref aX), (2, .ref aM), (3, .int (nI i))] [] (Z, I, L, O)) (hR : R I L O) : Ok g (400, RL, cL_law, 4, false, rc, rs, z0, s0) Qx 507 [(0, .ref 0), (1, .ref aX), (2, .ref aM), (3, .int (nI i))] [] (Z, I, L, O) := by
  have hW := hWT I L O hR
  refine ok_aload_n dL_law_507 1 rfl ?_
  refine ok_aload_n dL_law_508 0 rfl ?_
  refine ok_iload_n dL_law_509 3 rfl ?_
  refine ok_iconst (v := 1) dL_law_510 (by decide) ?_
  refine ok_iadd dL_law_511 ?_
  refine ok_sld dL_law_512 hin1 ?_
  refine ok_aload_n dL_law_513 0 rfl ?_
  refine ok_iload_n dL_law_514 3 rfl ?_
  refine ok_iconst (v := 2) dL_law_515 (by decide) ?_
  refine ok_iadd dL_law_516 ?_
  refine ok_sld dL_law_517 hin2 ?_
  obtain ⟨v, I1, I2, L2, hx, hm, hR2⟩ := hst9 I L O (gx g (nI i + 1).toNatClampNeg) (gx g (nI i + 2).toNatClampNeg)  hR
  refine ok_callV (d := (392 + 7)) (mt := m11_play) (mc := 0) (ms := 0) (As := [.int (gx g (nI i + 1).toNatClampNeg), .int (gx g (nI i + 2).toNatClampNeg)]) (r := []) dL_law_518 mo11_play mv11_play lkRL_54 rfl hZX (q := (RX11, TX11, 11)) rfl rfl rfl (Nat.le_of_ble_eq_true rfl) (Nat.le_of_ble_eq_true rfl) hbud hbus (pRt_mono ?_)
  refine k11_play 392 hW hZX hx ?_
  intro _
  show Ok g (400, RL, cL_law, 4, false, rc, rs, z0, s0) Qx 521 [(0, .ref 0), (1, .ref aX), (2, .ref aM), (3, .int (nI i))] [.int v] (Z, I1, L, O)
  refine ok_aload_n dL_law_521 2 rfl ?_
  refine ok_aload_n dL_law_522 0 rfl ?_
  refine ok_iload_n dL_law_523 3 rfl ?_
  refine ok_iconst (v := 1) dL_law_524 (by decide) ?_
  refine ok_iadd dL_law_525 ?_
  refine ok_sld dL_law_526 hin1 ?_
  refine ok_aload_n dL_law_527 0 rfl ?_
  refine ok_iload_n dL_law_528 3 rfl ?_
  refine ok_iconst (v := 2) dL_law_529 (by decide) ?_
  refine ok_iadd dL_law_530 ?_
  refine ok_sld dL_law_531 hin2 ?_
  refine ok_callV (d := (389 + 10)) (mt := m12_play) (mc := 0) (ms := 0) (As := [.int (gx g (nI i + 1).toNatClampNeg), .int (gx g (nI i + 2).toNatClampNeg)]) (r := [.int v]) dL_law_532 mo12_play mv12_play lkRL_58 rfl hZM (q := (RX12, TX12, 34)) rfl rfl rfl (Nat.le_of_ble_eq_true rfl) (Nat.le_of_ble_eq_true rfl) hbud hbus (pRt_mono ?_)
  refine k12_play 389 hW hZM hm ?_
  intro _
  show Ok g (400, RL, cL_law, 4, false, rc, rs, z0, s0) Qx 535 [(0, .ref 0), (1, .ref aX), (2, .ref aM), (3, .int (nI i))] [.int v, .int v] (Z, I2, L2, O)
  refine ok_icmp_eq (t := 1720) dL_law_535 (by decide) (fun _ => ?_) (fun q => absurd rfl q)
  exact hnext _ _ _ hR2
set_option maxHeartbeats 4000000 in
set_option maxRecDepth 20000 in
theorem lcase10 {g : pG} {Qx : Option Value → pW → Prop} {Z : pZ} {n aX aM : Nat} {R : (Nat → Nat → Int32) → (Nat → Nat → Int64) → (Nat → Nat → Option Nat) → Prop} {rc rs z0 s0 i : Nat} {I : (Nat → Nat → Int32)} {L : (Nat → Nat → Int64)} {O : (Nat → Nat → Option Nat)} (hWT : ∀ I L O, R I L O → WT Z O) (hStr : StrOK g) (hZX : Z[aX]? = some (11, 11)) (hZM : Z[aM]? = some (12, 34)) (hbud : Z.length + 0 ≤ z0 + rc) (hbus : pSl Z + 0 ≤ s0 + rs) (hst10 : St10 n aX aM R) (hin1 : vp_in (nI i + 1) (gL g)) (hin2 : vp_in (nI i + 2) (gL g)) (hin3 : vp_in (nI i + 3) (gL g)) (hin4 : vp_in (nI i + 4) (gL g)) (hin5 : vp_in (nI i + 5) (gL g)) (hnext : ∀ I L O, R I L O → Ok g (400, RL, cL_law, 4, false, rc, rs, z0, s0) Qx 1720 [(0, .ref 0), (1, .ref aX), (2, .ref aM), (3, .int (nI i))] [] (Z, I, L, O)) (hR : R I L O) : Ok g (400, RL, cL_law, 4, false, rc, rs, z0, s0) Qx 540 [(0, .ref 0), (1, .ref aX), (2, .ref aM), (3, .int (nI i))] [] (Z, I, L, O) := by
  have hW := hWT I L O hR
  refine ok_aload_n dL_law_540 1 rfl ?_
  refine ok_aload_n dL_law_541 0 rfl ?_
  refine ok_iload_n dL_law_542 3 rfl ?_
  refine ok_iconst (v := 1) dL_law_543 (by decide) ?_
  refine ok_iadd dL_law_544 ?_
  refine ok_sld dL_law_545 hin1 ?_
  refine ok_aload_n dL_law_546 0 rfl ?_
  refine ok_iload_n dL_law_547 3 rfl ?_
  refine ok_iconst (v := 2) dL_law_548 (by decide) ?_
  refine ok_iadd dL_law_549 ?_
  refine ok_sld dL_law_550 hin2 ?_
  obtain ⟨v, I1, I2, hx, hm, hR2⟩ := hst10 I L O (gx g (nI i + 1).toNatClampNeg) (gx g (nI i + 2).toNatClampNeg)  hR
  refine ok_callV (d := (393 + 6)) (mt := m11_patch) (mc := 0) (ms := 0) (As := [.int (gx g (nI i + 1).toNatClampNeg), .int (gx g (nI i + 2).toNatClampNeg)]) (r := []) dL_law_551 mo11_patch mv11_patch lkRL_59 rfl hZX (q := (RX11, TX11, 11)) rfl rfl rfl (Nat.le_of_ble_eq_true rfl) (Nat.le_of_ble_eq_true rfl) hbud hbus (pRt_mono ?_)
  refine k11_patch 393 hW hZX hx ?_
  intro _
  show Ok g (400, RL, cL_law, 4, false, rc, rs, z0, s0) Qx 554 [(0, .ref 0), (1, .ref aX), (2, .ref aM), (3, .int (nI i))] [.int v] (Z, I1, L, O)
  refine ok_aload_n dL_law_554 2 rfl ?_
  refine ok_aload_n dL_law_555 0 rfl ?_
  refine ok_iload_n dL_law_556 3 rfl ?_
  refine ok_iconst (v := 1) dL_law_557 (by decide) ?_
  refine ok_iadd dL_law_558 ?_
  refine ok_sld dL_law_559 hin1 ?_
  refine ok_aload_n dL_law_560 0 rfl ?_
  refine ok_iload_n dL_law_561 3 rfl ?_
  refine ok_iconst (v := 2) dL_law_562 (by decide) ?_
  refine ok_iadd dL_law_563 ?_
  refine ok_sld dL_law_564 hin2 ?_
  refine ok_callV (d := (393 + 6)) (mt := m12_patch) (mc := 0) (ms := 0) (As := [.int (gx g (nI i + 1).toNatClampNeg), .int (gx g (nI i + 2).toNatClampNeg)]) (r := [.int v]) dL_law_565 mo12_patch mv12_patch lkRL_63 rfl hZM (q := (RX12, TX12, 34)) rfl rfl rfl (Nat.le_of_ble_eq_true rfl) (Nat.le_of_ble_eq_true rfl) hbud hbus (pRt_mono ?_)
  refine k12_patch 393 hW hZM hm ?_
  intro _
  show Ok g (400, RL, cL_law, 4, false, rc, rs, z0, s0) Qx 568 [(0, .ref 0), (1, .ref aX), (2, .ref aM), (3, .int (nI i))] [.int v, .int v] (Z, I2, L, O)
  refine ok_icmp_eq (t := 1720) dL_law_568 (by decide) (fun _ => ?_) (fun q => absurd rfl q)
  exact hnext _ _ _ hR2
set_option maxHeartbeats 4000000 in
set_option maxRecDepth 20000 in
theorem lcase11 {g : pG} {Qx : Option Value → pW → Prop} {Z : pZ} {n aX aM : Nat} {R : (Nat → Nat → Int32) → (Nat → Nat → Int64) → (Nat → Nat → Option Nat) → Prop} {rc rs z0 s0 i : Nat} {I : (Nat → Nat → Int32)} {L : (Nat → Nat → Int64)} {O : (Nat → Nat → Option Nat)} (hWT : ∀ I L O, R I L O → WT Z O) (hStr : StrOK g) (hZX : Z[aX]? = some (11, 11)) (hZM : Z[aM]? = some (12, 34)) (hbud : Z.length + 0 ≤ z0 + rc) (hbus : pSl Z + 0 ≤ s0 + rs) (hst11 : St11 n aX aM R) (hin1 : vp_in (nI i + 1) (gL g)) (hin2 : vp_in (nI i + 2) (gL g)) (hin3 : vp_in (nI i + 3) (gL g)) (hin4 : vp_in (nI i + 4) (gL g)) (hin5 : vp_in (nI i + 5) (gL g)) (hnext : ∀ I L O, R I L O → Ok g (400, RL, cL_law, 4, false, rc, rs, z0, s0) Qx 1720 [(0, .ref 0), (1, .ref aX), (2, .ref aM), (3, .int (nI i))] [] (Z, I, L, O)) (hR : R I L O) : Ok g (400, RL, cL_law, 4, false, rc, rs, z0, s0) Qx 573 [(0, .ref 0), (1, .ref aX), (2, .ref aM), (3, .int (nI i))] [] (Z, I, L, O) := by
  have hW := hWT I L O hR
  refine ok_aload_n dL_law_573 1 rfl ?_
  refine ok_aload_n dL_law_574 0 rfl ?_
  refine ok_iload_n dL_law_575 3 rfl ?_
  refine ok_iconst (v := 1) dL_law_576 (by decide) ?_
  refine ok_iadd dL_law_577 ?_
  refine ok_sld dL_law_578 hin1 ?_
  refine ok_aload_n dL_law_579 0 rfl ?_
  refine ok_iload_n dL_law_580 3 rfl ?_
  refine ok_iconst (v := 2) dL_law_581 (by decide) ?_
  refine ok_iadd dL_law_582 ?_
  refine ok_sld dL_law_583 hin2 ?_
  obtain ⟨v, I1, I2, hx, hm, hR2⟩ := hst11 I L O (gx g (nI i + 1).toNatClampNeg) (gx g (nI i + 2).toNatClampNeg)  hR
  refine ok_callV (d := (393 + 6)) (mt := m11_forget) (mc := 0) (ms := 0) (As := [.int (gx g (nI i + 1).toNatClampNeg), .int (gx g (nI i + 2).toNatClampNeg)]) (r := []) dL_law_584 mo11_forget mv11_forget lkRL_64 rfl hZX (q := (RX11, TX11, 11)) rfl rfl rfl (Nat.le_of_ble_eq_true rfl) (Nat.le_of_ble_eq_true rfl) hbud hbus (pRt_mono ?_)
  refine k11_forget 393 hW hZX hx ?_
  intro _
  show Ok g (400, RL, cL_law, 4, false, rc, rs, z0, s0) Qx 587 [(0, .ref 0), (1, .ref aX), (2, .ref aM), (3, .int (nI i))] [.int v] (Z, I1, L, O)
  refine ok_aload_n dL_law_587 2 rfl ?_
  refine ok_aload_n dL_law_588 0 rfl ?_
  refine ok_iload_n dL_law_589 3 rfl ?_
  refine ok_iconst (v := 1) dL_law_590 (by decide) ?_
  refine ok_iadd dL_law_591 ?_
  refine ok_sld dL_law_592 hin1 ?_
  refine ok_aload_n dL_law_593 0 rfl ?_
  refine ok_iload_n dL_law_594 3 rfl ?_
  refine ok_iconst (v := 2) dL_law_595 (by decide) ?_
  refine ok_iadd dL_law_596 ?_
  refine ok_sld dL_law_597 hin2 ?_
  refine ok_callV (d := (394 + 5)) (mt := m12_forget) (mc := 0) (ms := 0) (As := [.int (gx g (nI i + 1).toNatClampNeg), .int (gx g (nI i + 2).toNatClampNeg)]) (r := [.int v]) dL_law_598 mo12_forget mv12_forget lkRL_67 rfl hZM (q := (RX12, TX12, 34)) rfl rfl rfl (Nat.le_of_ble_eq_true rfl) (Nat.le_of_ble_eq_true rfl) hbud hbus (pRt_mono ?_)
  refine k12_forget 394 hW hZM hm ?_
  intro _
  show Ok g (400, RL, cL_law, 4, false, rc, rs, z0, s0) Qx 601 [(0, .ref 0), (1, .ref aX), (2, .ref aM), (3, .int (nI i))] [.int v, .int v] (Z, I2, L, O)
  refine ok_icmp_eq (t := 1720) dL_law_601 (by decide) (fun _ => ?_) (fun q => absurd rfl q)
  exact hnext _ _ _ hR2
set_option maxHeartbeats 4000000 in
set_option maxRecDepth 20000 in
theorem lcase12 {g : pG} {Qx : Option Value → pW → Prop} {Z : pZ} {n aX aM : Nat} {R : (Nat → Nat → Int32) → (Nat → Nat → Int64) → (Nat → Nat → Option Nat) → Prop} {rc rs z0 s0 i : Nat} {I : (Nat → Nat → Int32)} {L : (Nat → Nat → Int64)} {O : (Nat → Nat → Option Nat)} (hWT : ∀ I L O, R I L O → WT Z O) (hStr : StrOK g) (hZX : Z[aX]? = some (11, 11)) (hZM : Z[aM]? = some (12, 34)) (hbud : Z.length + 0 ≤ z0 + rc) (hbus : pSl Z + 0 ≤ s0 + rs) (hst12 : St12 n aX aM R) (hin1 : vp_in (nI i + 1) (gL g)) (hin2 : vp_in (nI i + 2) (gL g)) (hin3 : vp_in (nI i + 3) (gL g)) (hin4 : vp_in (nI i + 4) (gL g)) (hin5 : vp_in (nI i + 5) (gL g)) (hnext : ∀ I L O, R I L O → Ok g (400, RL, cL_law, 4, false, rc, rs, z0, s0) Qx 1720 [(0, .ref 0), (1, .ref aX), (2, .ref aM), (3, .int (nI i))] [] (Z, I, L, O)) (hR : R I L O) : Ok g (400, RL, cL_law, 4, false, rc, rs, z0, s0) Qx 606 [(0, .ref 0), (1, .ref aX), (2, .ref aM), (3, .int (nI i))] [] (Z, I, L, O) := by
  have hW := hWT I L O hR
  refine ok_aload_n dL_law_606 1 rfl ?_
  refine ok_aload_n dL_law_607 0 rfl ?_
  refine ok_iload_n dL_law_608 3 rfl ?_
  refine ok_iconst (v := 1) dL_law_609 (by decide) ?_
  refine ok_iadd dL_law_610 ?_
  refine ok_sld dL_law_611 hin1 ?_
  obtain ⟨v, I1, I2, L2, hx, hm, hR2⟩ := hst12 I L O (gx g (nI i + 1).toNatClampNeg)  hR
  refine ok_callV (d := (391 + 8)) (mt := m11_sunday) (mc := 0) (ms := 0) (As := [.int (gx g (nI i + 1).toNatClampNeg)]) (r := []) dL_law_612 mo11_sunday mv11_sunday lkRL_68 rfl hZX (q := (RX11, TX11, 11)) rfl rfl rfl (Nat.le_of_ble_eq_true rfl) (Nat.le_of_ble_eq_true rfl) hbud hbus (pRt_mono ?_)
  refine k11_sunday 391 hW hZX hx ?_
  intro _
  show Ok g (400, RL, cL_law, 4, false, rc, rs, z0, s0) Qx 615 [(0, .ref 0), (1, .ref aX), (2, .ref aM), (3, .int (nI i))] [.int v] (Z, I1, L, O)
  refine ok_aload_n dL_law_615 2 rfl ?_
  refine ok_aload_n dL_law_616 0 rfl ?_
  refine ok_iload_n dL_law_617 3 rfl ?_
  refine ok_iconst (v := 1) dL_law_618 (by decide) ?_
  refine ok_iadd dL_law_619 ?_
  refine ok_sld dL_law_620 hin1 ?_
  refine ok_callV (d := (387 + 12)) (mt := m12_sunday) (mc := 0) (ms := 0) (As := [.int (gx g (nI i + 1).toNatClampNeg)]) (r := [.int v]) dL_law_621 mo12_sunday mv12_sunday lkRL_71 rfl hZM (q := (RX12, TX12, 34)) rfl rfl rfl (Nat.le_of_ble_eq_true rfl) (Nat.le_of_ble_eq_true rfl) hbud hbus (pRt_mono ?_)
  refine k12_sunday 387 hW hZM hm ?_
  intro _
  show Ok g (400, RL, cL_law, 4, false, rc, rs, z0, s0) Qx 624 [(0, .ref 0), (1, .ref aX), (2, .ref aM), (3, .int (nI i))] [.int v, .int v] (Z, I2, L2, O)
  refine ok_icmp_eq (t := 1720) dL_law_624 (by decide) (fun _ => ?_) (fun q => absurd rfl q)
  exact hnext _ _ _ hR2
set_option maxHeartbeats 4000000 in
set_option maxRecDepth 20000 in
theorem lcase13 {g : pG} {Qx : Option Value → pW → Prop} {Z : pZ} {n aX aM : Nat} {R : (Nat → Nat → Int32) → (Nat → Nat → Int64) → (Nat → Nat → Option Nat) → Prop} {rc rs z0 s0 i : Nat} {I : (Nat → Nat → Int32)} {L : (Nat → Nat → Int64)} {O : (Nat → Nat → Option Nat)} (hWT : ∀ I L O, R I L O → WT Z O) (hStr : StrOK g) (hZX : Z[aX]? = some (11, 11)) (hZM : Z[aM]? = some (12, 34)) (hbud : Z.length + 0 ≤ z0 + rc) (hbus : pSl Z + 0 ≤ s0 + rs) (hst13 : St13 n aX aM R) (hin1 : vp_in (nI i + 1) (gL g)) (hin2 : vp_in (nI i + 2) (gL g)) (hin3 : vp_in (nI i + 3) (gL g)) (hin4 : vp_in (nI i + 4) (gL g)) (hin5 : vp_in (nI i + 5) (gL g)) (hnext : ∀ I L O, R I L O → Ok g (400, RL, cL_law, 4, false, rc, rs, z0, s0) Qx 1720 [(0, .ref 0), (1, .ref aX), (2, .ref aM), (3, .int (nI i))] [] (Z, I, L, O)) (hR : R I L O) : Ok g (400, RL, cL_law, 4, false, rc, rs, z0, s0) Qx 629 [(0, .ref 0), (1, .ref aX), (2, .ref aM), (3, .int (nI i))] [] (Z, I, L, O) := by
  have hW := hWT I L O hR
  refine ok_aload_n dL_law_629 1 rfl ?_
  refine ok_aload_n dL_law_630 0 rfl ?_
  refine ok_iload_n dL_law_631 3 rfl ?_
  refine ok_iconst (v := 1) dL_law_632 (by decide) ?_
  refine ok_iadd dL_law_633 ?_
  refine ok_sld dL_law_634 hin1 ?_
  obtain ⟨v, I1, I2, L2, hx, hm, hR2⟩ := hst13 I L O (gx g (nI i + 1).toNatClampNeg)  hR
  refine ok_callV (d := (390 + 9)) (mt := m11_played) (mc := 0) (ms := 0) (As := [.int (gx g (nI i + 1).toNatClampNeg)]) (r := []) dL_law_635 mo11_played mv11_played lkRL_72 rfl hZX (q := (RX11, TX11, 11)) rfl rfl rfl (Nat.le_of_ble_eq_true rfl) (Nat.le_of_ble_eq_true rfl) hbud hbus (pRt_mono ?_)
  refine k11_played 390 hW hZX hx ?_
  intro _
  show Ok g (400, RL, cL_law, 4, false, rc, rs, z0, s0) Qx 638 [(0, .ref 0), (1, .ref aX), (2, .ref aM), (3, .int (nI i))] [.int v] (Z, I1, L, O)
  refine ok_aload_n dL_law_638 2 rfl ?_
  refine ok_aload_n dL_law_639 0 rfl ?_
  refine ok_iload_n dL_law_640 3 rfl ?_
  refine ok_iconst (v := 1) dL_law_641 (by decide) ?_
  refine ok_iadd dL_law_642 ?_
  refine ok_sld dL_law_643 hin1 ?_
  refine ok_callV (d := (386 + 13)) (mt := m12_played) (mc := 0) (ms := 0) (As := [.int (gx g (nI i + 1).toNatClampNeg)]) (r := [.int v]) dL_law_644 mo12_played mv12_played lkRL_75 rfl hZM (q := (RX12, TX12, 34)) rfl rfl rfl (Nat.le_of_ble_eq_true rfl) (Nat.le_of_ble_eq_true rfl) hbud hbus (pRt_mono ?_)
  refine k12_played 386 hW hZM hm ?_
  intro _
  show Ok g (400, RL, cL_law, 4, false, rc, rs, z0, s0) Qx 647 [(0, .ref 0), (1, .ref aX), (2, .ref aM), (3, .int (nI i))] [.int v, .int v] (Z, I2, L2, O)
  refine ok_icmp_eq (t := 1720) dL_law_647 (by decide) (fun _ => ?_) (fun q => absurd rfl q)
  exact hnext _ _ _ hR2
set_option maxHeartbeats 4000000 in
set_option maxRecDepth 20000 in
theorem lcase14 {g : pG} {Qx : Option Value → pW → Prop} {Z : pZ} {n aX aM : Nat} {R : (Nat → Nat → Int32) → (Nat → Nat → Int64) → (Nat → Nat → Option Nat) → Prop} {rc rs z0 s0 i : Nat} {I : (Nat → Nat → Int32)} {L : (Nat → Nat → Int64)} {O : (Nat → Nat → Option Nat)} (hWT : ∀ I L O, R I L O → WT Z O) (hStr : StrOK g) (hZX : Z[aX]? = some (11, 11)) (hZM : Z[aM]? = some (12, 34)) (hbud : Z.length + 0 ≤ z0 + rc) (hbus : pSl Z + 0 ≤ s0 + rs) (hst14 : St14 n aX aM R) (hin1 : vp_in (nI i + 1) (gL g)) (hin2 : vp_in (nI i + 2) (gL g)) (hin3 : vp_in (nI i + 3) (gL g)) (hin4 : vp_in (nI i + 4) (gL g)) (hin5 : vp_in (nI i + 5) (gL g)) (hnext : ∀ I L O, R I L O → Ok g (400, RL, cL_law, 4, false, rc, rs, z0, s0) Qx 1720 [(0, .ref 0), (1, .ref aX), (2, .ref aM), (3, .int (nI i))] [] (Z, I, L, O)) (hR : R I L O) : Ok g (400, RL, cL_law, 4, false, rc, rs, z0, s0) Qx 652 [(0, .ref 0), (1, .ref aX), (2, .ref aM), (3, .int (nI i))] [] (Z, I, L, O) := by
  have hW := hWT I L O hR
  refine ok_aload_n dL_law_652 1 rfl ?_
  refine ok_aload_n dL_law_653 0 rfl ?_
  refine ok_iload_n dL_law_654 3 rfl ?_
  refine ok_iconst (v := 1) dL_law_655 (by decide) ?_
  refine ok_iadd dL_law_656 ?_
  refine ok_sld dL_law_657 hin1 ?_
  refine ok_aload_n dL_law_658 0 rfl ?_
  refine ok_iload_n dL_law_659 3 rfl ?_
  refine ok_iconst (v := 2) dL_law_660 (by decide) ?_
  refine ok_iadd dL_law_661 ?_
  refine ok_sld dL_law_662 hin2 ?_
  obtain ⟨v, I1, I2, L2, hx, hm, hR2⟩ := hst14 I L O (gx g (nI i + 1).toNatClampNeg) (gx g (nI i + 2).toNatClampNeg)  hR
  refine ok_callV (d := (390 + 9)) (mt := m11_years) (mc := 0) (ms := 0) (As := [.int (gx g (nI i + 1).toNatClampNeg), .int (gx g (nI i + 2).toNatClampNeg)]) (r := []) dL_law_663 mo11_years mv11_years lkRL_76 rfl hZX (q := (RX11, TX11, 11)) rfl rfl rfl (Nat.le_of_ble_eq_true rfl) (Nat.le_of_ble_eq_true rfl) hbud hbus (pRt_mono ?_)
  refine k11_years 390 hW hZX hx ?_
  intro _
  show Ok g (400, RL, cL_law, 4, false, rc, rs, z0, s0) Qx 666 [(0, .ref 0), (1, .ref aX), (2, .ref aM), (3, .int (nI i))] [.int v] (Z, I1, L, O)
  refine ok_aload_n dL_law_666 2 rfl ?_
  refine ok_aload_n dL_law_667 0 rfl ?_
  refine ok_iload_n dL_law_668 3 rfl ?_
  refine ok_iconst (v := 1) dL_law_669 (by decide) ?_
  refine ok_iadd dL_law_670 ?_
  refine ok_sld dL_law_671 hin1 ?_
  refine ok_aload_n dL_law_672 0 rfl ?_
  refine ok_iload_n dL_law_673 3 rfl ?_
  refine ok_iconst (v := 2) dL_law_674 (by decide) ?_
  refine ok_iadd dL_law_675 ?_
  refine ok_sld dL_law_676 hin2 ?_
  refine ok_callV (d := (387 + 12)) (mt := m12_years) (mc := 0) (ms := 0) (As := [.int (gx g (nI i + 1).toNatClampNeg), .int (gx g (nI i + 2).toNatClampNeg)]) (r := [.int v]) dL_law_677 mo12_years mv12_years lkRL_79 rfl hZM (q := (RX12, TX12, 34)) rfl rfl rfl (Nat.le_of_ble_eq_true rfl) (Nat.le_of_ble_eq_true rfl) hbud hbus (pRt_mono ?_)
  refine k12_years 387 hW hZM hm ?_
  intro _
  show Ok g (400, RL, cL_law, 4, false, rc, rs, z0, s0) Qx 680 [(0, .ref 0), (1, .ref aX), (2, .ref aM), (3, .int (nI i))] [.int v, .int v] (Z, I2, L2, O)
  refine ok_icmp_eq (t := 1720) dL_law_680 (by decide) (fun _ => ?_) (fun q => absurd rfl q)
  exact hnext _ _ _ hR2
set_option maxHeartbeats 4000000 in
set_option maxRecDepth 20000 in
theorem lcase15 {g : pG} {Qx : Option Value → pW → Prop} {Z : pZ} {n aX aM : Nat} {R : (Nat → Nat → Int32) → (Nat → Nat → Int64) → (Nat → Nat → Option Nat) → Prop} {rc rs z0 s0 i : Nat} {I : (Nat → Nat → Int32)} {L : (Nat → Nat → Int64)} {O : (Nat → Nat → Option Nat)} (hWT : ∀ I L O, R I L O → WT Z O) (hStr : StrOK g) (hZX : Z[aX]? = some (11, 11)) (hZM : Z[aM]? = some (12, 34)) (hbud : Z.length + 0 ≤ z0 + rc) (hbus : pSl Z + 0 ≤ s0 + rs) (hst15 : St15 n aX aM R) (hin1 : vp_in (nI i + 1) (gL g)) (hin2 : vp_in (nI i + 2) (gL g)) (hin3 : vp_in (nI i + 3) (gL g)) (hin4 : vp_in (nI i + 4) (gL g)) (hin5 : vp_in (nI i + 5) (gL g)) (hnext : ∀ I L O, R I L O → Ok g (400, RL, cL_law, 4, false, rc, rs, z0, s0) Qx 1720 [(0, .ref 0), (1, .ref aX), (2, .ref aM), (3, .int (nI i))] [] (Z, I, L, O)) (hR : R I L O) : Ok g (400, RL, cL_law, 4, false, rc, rs, z0, s0) Qx 685 [(0, .ref 0), (1, .ref aX), (2, .ref aM), (3, .int (nI i))] [] (Z, I, L, O) := by
  have hW := hWT I L O hR
  refine ok_aload_n dL_law_685 1 rfl ?_
  obtain ⟨v, I1, I2, hx, hm, hR2⟩ := hst15 I L O   hR
  refine ok_callV (d := (394 + 5)) (mt := m11_undo) (mc := 0) (ms := 0) (As := []) (r := []) dL_law_686 mo11_undo mv11_undo lkRL_80 rfl hZX (q := (RX11, TX11, 11)) rfl rfl rfl (Nat.le_of_ble_eq_true rfl) (Nat.le_of_ble_eq_true rfl) hbud hbus (pRt_mono ?_)
  refine k11_undo 394 hW hZX hx ?_
  intro _
  show Ok g (400, RL, cL_law, 4, false, rc, rs, z0, s0) Qx 689 [(0, .ref 0), (1, .ref aX), (2, .ref aM), (3, .int (nI i))] [.int v] (Z, I1, L, O)
  refine ok_aload_n dL_law_689 2 rfl ?_
  refine ok_callV (d := (397 + 2)) (mt := m12_undo) (mc := 0) (ms := 0) (As := []) (r := [.int v]) dL_law_690 mo12_undo mv12_undo lkRL_83 rfl hZM (q := (RX12, TX12, 34)) rfl rfl rfl (Nat.le_of_ble_eq_true rfl) (Nat.le_of_ble_eq_true rfl) hbud hbus (pRt_mono ?_)
  refine k12_undo 397 hW hZM hm ?_
  intro _
  show Ok g (400, RL, cL_law, 4, false, rc, rs, z0, s0) Qx 693 [(0, .ref 0), (1, .ref aX), (2, .ref aM), (3, .int (nI i))] [.int v, .int v] (Z, I2, L, O)
  refine ok_icmp_eq (t := 1720) dL_law_693 (by decide) (fun _ => ?_) (fun q => absurd rfl q)
  exact hnext _ _ _ hR2
set_option maxHeartbeats 4000000 in
set_option maxRecDepth 20000 in
theorem lcase16 {g : pG} {Qx : Option Value → pW → Prop} {Z : pZ} {n aX aM : Nat} {R : (Nat → Nat → Int32) → (Nat → Nat → Int64) → (Nat → Nat → Option Nat) → Prop} {rc rs z0 s0 i : Nat} {I : (Nat → Nat → Int32)} {L : (Nat → Nat → Int64)} {O : (Nat → Nat → Option Nat)} (hWT : ∀ I L O, R I L O → WT Z O) (hStr : StrOK g) (hZX : Z[aX]? = some (11, 11)) (hZM : Z[aM]? = some (12, 34)) (hbud : Z.length + 0 ≤ z0 + rc) (hbus : pSl Z + 0 ≤ s0 + rs) (hst16 : St16 n aX aM R) (hin1 : vp_in (nI i + 1) (gL g)) (hin2 : vp_in (nI i + 2) (gL g)) (hin3 : vp_in (nI i + 3) (gL g)) (hin4 : vp_in (nI i + 4) (gL g)) (hin5 : vp_in (nI i + 5) (gL g)) (hnext : ∀ I L O, R I L O → Ok g (400, RL, cL_law, 4, false, rc, rs, z0, s0) Qx 1720 [(0, .ref 0), (1, .ref aX), (2, .ref aM), (3, .int (nI i))] [] (Z, I, L, O)) (hR : R I L O) : Ok g (400, RL, cL_law, 4, false, rc, rs, z0, s0) Qx 698 [(0, .ref 0), (1, .ref aX), (2, .ref aM), (3, .int (nI i))] [] (Z, I, L, O) := by
  have hW := hWT I L O hR
  refine ok_aload_n dL_law_698 1 rfl ?_
  refine ok_aload_n dL_law_699 0 rfl ?_
  refine ok_iload_n dL_law_700 3 rfl ?_
  refine ok_iconst (v := 1) dL_law_701 (by decide) ?_
  refine ok_iadd dL_law_702 ?_
  refine ok_sld dL_law_703 hin1 ?_
  refine ok_aload_n dL_law_704 0 rfl ?_
  refine ok_iload_n dL_law_705 3 rfl ?_
  refine ok_iconst (v := 2) dL_law_706 (by decide) ?_
  refine ok_iadd dL_law_707 ?_
  refine ok_sld dL_law_708 hin2 ?_
  obtain ⟨v, I1, I2, L2, hx, hm, hR2⟩ := hst16 I L O (gx g (nI i + 1).toNatClampNeg) (gx g (nI i + 2).toNatClampNeg)  hR
  refine ok_callV (d := (392 + 7)) (mt := m11_of) (mc := 0) (ms := 0) (As := [.int (gx g (nI i + 1).toNatClampNeg), .int (gx g (nI i + 2).toNatClampNeg)]) (r := []) dL_law_709 mo11_of mv11_of lkRL_84 rfl hZX (q := (RX11, TX11, 11)) rfl rfl rfl (Nat.le_of_ble_eq_true rfl) (Nat.le_of_ble_eq_true rfl) hbud hbus (pRt_mono ?_)
  refine k11_of 392 hW hZX hx ?_
  intro _
  show Ok g (400, RL, cL_law, 4, false, rc, rs, z0, s0) Qx 712 [(0, .ref 0), (1, .ref aX), (2, .ref aM), (3, .int (nI i))] [.int v] (Z, I1, L, O)
  refine ok_aload_n dL_law_712 2 rfl ?_
  refine ok_aload_n dL_law_713 0 rfl ?_
  refine ok_iload_n dL_law_714 3 rfl ?_
  refine ok_iconst (v := 1) dL_law_715 (by decide) ?_
  refine ok_iadd dL_law_716 ?_
  refine ok_sld dL_law_717 hin1 ?_
  refine ok_aload_n dL_law_718 0 rfl ?_
  refine ok_iload_n dL_law_719 3 rfl ?_
  refine ok_iconst (v := 2) dL_law_720 (by decide) ?_
  refine ok_iadd dL_law_721 ?_
  refine ok_sld dL_law_722 hin2 ?_
  refine ok_callV (d := (388 + 11)) (mt := m12_of) (mc := 0) (ms := 0) (As := [.int (gx g (nI i + 1).toNatClampNeg), .int (gx g (nI i + 2).toNatClampNeg)]) (r := [.int v]) dL_law_723 mo12_of mv12_of lkRL_87 rfl hZM (q := (RX12, TX12, 34)) rfl rfl rfl (Nat.le_of_ble_eq_true rfl) (Nat.le_of_ble_eq_true rfl) hbud hbus (pRt_mono ?_)
  refine k12_of 388 hW hZM hm ?_
  intro _
  show Ok g (400, RL, cL_law, 4, false, rc, rs, z0, s0) Qx 726 [(0, .ref 0), (1, .ref aX), (2, .ref aM), (3, .int (nI i))] [.int v, .int v] (Z, I2, L2, O)
  refine ok_icmp_eq (t := 1720) dL_law_726 (by decide) (fun _ => ?_) (fun q => absurd rfl q)
  exact hnext _ _ _ hR2
set_option maxHeartbeats 4000000 in
set_option maxRecDepth 20000 in
theorem lcase17 {g : pG} {Qx : Option Value → pW → Prop} {Z : pZ} {n aX aM : Nat} {R : (Nat → Nat → Int32) → (Nat → Nat → Int64) → (Nat → Nat → Option Nat) → Prop} {rc rs z0 s0 i : Nat} {I : (Nat → Nat → Int32)} {L : (Nat → Nat → Int64)} {O : (Nat → Nat → Option Nat)} (hWT : ∀ I L O, R I L O → WT Z O) (hStr : StrOK g) (hZX : Z[aX]? = some (11, 11)) (hZM : Z[aM]? = some (12, 34)) (hbud : Z.length + 0 ≤ z0 + rc) (hbus : pSl Z + 0 ≤ s0 + rs) (hst17 : St17 n aX aM R) (hin1 : vp_in (nI i + 1) (gL g)) (hin2 : vp_in (nI i + 2) (gL g)) (hin3 : vp_in (nI i + 3) (gL g)) (hin4 : vp_in (nI i + 4) (gL g)) (hin5 : vp_in (nI i + 5) (gL g)) (hnext : ∀ I L O, R I L O → Ok g (400, RL, cL_law, 4, false, rc, rs, z0, s0) Qx 1720 [(0, .ref 0), (1, .ref aX), (2, .ref aM), (3, .int (nI i))] [] (Z, I, L, O)) (hR : R I L O) : Ok g (400, RL, cL_law, 4, false, rc, rs, z0, s0) Qx 731 [(0, .ref 0), (1, .ref aX), (2, .ref aM), (3, .int (nI i))] [] (Z, I, L, O) := by
  have hW := hWT I L O hR
  refine ok_aload_n dL_law_731 1 rfl ?_
  refine ok_aload_n dL_law_732 0 rfl ?_
  refine ok_iload_n dL_law_733 3 rfl ?_
  refine ok_iconst (v := 1) dL_law_734 (by decide) ?_
  refine ok_iadd dL_law_735 ?_
  refine ok_sld dL_law_736 hin1 ?_
  refine ok_aload_n dL_law_737 0 rfl ?_
  refine ok_iload_n dL_law_738 3 rfl ?_
  refine ok_iconst (v := 2) dL_law_739 (by decide) ?_
  refine ok_iadd dL_law_740 ?_
  refine ok_sld dL_law_741 hin2 ?_
  obtain ⟨v, hx, hm, hR2⟩ := hst17 I L O (gx g (nI i + 1).toNatClampNeg) (gx g (nI i + 2).toNatClampNeg)  hR
  refine ok_callV (d := (395 + 4)) (mt := m11_heard) (mc := 0) (ms := 0) (As := [.int (gx g (nI i + 1).toNatClampNeg), .int (gx g (nI i + 2).toNatClampNeg)]) (r := []) dL_law_742 mo11_heard mv11_heard lkRL_88 rfl hZX (q := (RX11, TX11, 11)) rfl rfl rfl (Nat.le_of_ble_eq_true rfl) (Nat.le_of_ble_eq_true rfl) hbud hbus (pRt_mono ?_)
  refine k11_heard 395 hW hZX hx ?_
  intro _
  show Ok g (400, RL, cL_law, 4, false, rc, rs, z0, s0) Qx 745 [(0, .ref 0), (1, .ref aX), (2, .ref aM), (3, .int (nI i))] [.int v] (Z, I, L, O)
  refine ok_aload_n dL_law_745 2 rfl ?_
  refine ok_aload_n dL_law_746 0 rfl ?_
  refine ok_iload_n dL_law_747 3 rfl ?_
  refine ok_iconst (v := 1) dL_law_748 (by decide) ?_
  refine ok_iadd dL_law_749 ?_
  refine ok_sld dL_law_750 hin1 ?_
  refine ok_aload_n dL_law_751 0 rfl ?_
  refine ok_iload_n dL_law_752 3 rfl ?_
  refine ok_iconst (v := 2) dL_law_753 (by decide) ?_
  refine ok_iadd dL_law_754 ?_
  refine ok_sld dL_law_755 hin2 ?_
  refine ok_callV (d := (395 + 4)) (mt := m12_heard) (mc := 0) (ms := 0) (As := [.int (gx g (nI i + 1).toNatClampNeg), .int (gx g (nI i + 2).toNatClampNeg)]) (r := [.int v]) dL_law_756 mo12_heard mv12_heard lkRL_91 rfl hZM (q := (RX12, TX12, 34)) rfl rfl rfl (Nat.le_of_ble_eq_true rfl) (Nat.le_of_ble_eq_true rfl) hbud hbus (pRt_mono ?_)
  refine k12_heard 395 hW hZM hm ?_
  intro _
  show Ok g (400, RL, cL_law, 4, false, rc, rs, z0, s0) Qx 759 [(0, .ref 0), (1, .ref aX), (2, .ref aM), (3, .int (nI i))] [.int v, .int v] (Z, I, L, O)
  refine ok_icmp_eq (t := 1720) dL_law_759 (by decide) (fun _ => ?_) (fun q => absurd rfl q)
  exact hnext _ _ _ hR2
set_option maxHeartbeats 4000000 in
set_option maxRecDepth 20000 in
theorem lcase18 {g : pG} {Qx : Option Value → pW → Prop} {Z : pZ} {n aX aM : Nat} {R : (Nat → Nat → Int32) → (Nat → Nat → Int64) → (Nat → Nat → Option Nat) → Prop} {rc rs z0 s0 i : Nat} {I : (Nat → Nat → Int32)} {L : (Nat → Nat → Int64)} {O : (Nat → Nat → Option Nat)} (hWT : ∀ I L O, R I L O → WT Z O) (hStr : StrOK g) (hZX : Z[aX]? = some (11, 11)) (hZM : Z[aM]? = some (12, 34)) (hbud : Z.length + 0 ≤ z0 + rc) (hbus : pSl Z + 0 ≤ s0 + rs) (hst18 : St18 n aX aM R) (hin1 : vp_in (nI i + 1) (gL g)) (hin2 : vp_in (nI i + 2) (gL g)) (hin3 : vp_in (nI i + 3) (gL g)) (hin4 : vp_in (nI i + 4) (gL g)) (hin5 : vp_in (nI i + 5) (gL g)) (hnext : ∀ I L O, R I L O → Ok g (400, RL, cL_law, 4, false, rc, rs, z0, s0) Qx 1720 [(0, .ref 0), (1, .ref aX), (2, .ref aM), (3, .int (nI i))] [] (Z, I, L, O)) (hR : R I L O) : Ok g (400, RL, cL_law, 4, false, rc, rs, z0, s0) Qx 764 [(0, .ref 0), (1, .ref aX), (2, .ref aM), (3, .int (nI i))] [] (Z, I, L, O) := by
  have hW := hWT I L O hR
  refine ok_aload_n dL_law_764 1 rfl ?_
  refine ok_aload_n dL_law_765 0 rfl ?_
  refine ok_iload_n dL_law_766 3 rfl ?_
  refine ok_iconst (v := 1) dL_law_767 (by decide) ?_
  refine ok_iadd dL_law_768 ?_
  refine ok_sld dL_law_769 hin1 ?_
  refine ok_aload_n dL_law_770 0 rfl ?_
  refine ok_iload_n dL_law_771 3 rfl ?_
  refine ok_iconst (v := 2) dL_law_772 (by decide) ?_
  refine ok_iadd dL_law_773 ?_
  refine ok_sld dL_law_774 hin2 ?_
  obtain ⟨v, I1, I2, L2, hx, hm, hR2⟩ := hst18 I L O (gx g (nI i + 1).toNatClampNeg) (gx g (nI i + 2).toNatClampNeg)  hR
  refine ok_callV (d := (391 + 8)) (mt := m11_ofRoll) (mc := 0) (ms := 0) (As := [.int (gx g (nI i + 1).toNatClampNeg), .int (gx g (nI i + 2).toNatClampNeg)]) (r := []) dL_law_775 mo11_ofRoll mv11_ofRoll lkRL_92 rfl hZX (q := (RX11, TX11, 11)) rfl rfl rfl (Nat.le_of_ble_eq_true rfl) (Nat.le_of_ble_eq_true rfl) hbud hbus (pRt_mono ?_)
  refine k11_ofRoll 391 hW hZX hx ?_
  intro _
  show Ok g (400, RL, cL_law, 4, false, rc, rs, z0, s0) Qx 778 [(0, .ref 0), (1, .ref aX), (2, .ref aM), (3, .int (nI i))] [.int v] (Z, I1, L, O)
  refine ok_aload_n dL_law_778 2 rfl ?_
  refine ok_aload_n dL_law_779 0 rfl ?_
  refine ok_iload_n dL_law_780 3 rfl ?_
  refine ok_iconst (v := 1) dL_law_781 (by decide) ?_
  refine ok_iadd dL_law_782 ?_
  refine ok_sld dL_law_783 hin1 ?_
  refine ok_aload_n dL_law_784 0 rfl ?_
  refine ok_iload_n dL_law_785 3 rfl ?_
  refine ok_iconst (v := 2) dL_law_786 (by decide) ?_
  refine ok_iadd dL_law_787 ?_
  refine ok_sld dL_law_788 hin2 ?_
  refine ok_callV (d := (389 + 10)) (mt := m12_ofRoll) (mc := 0) (ms := 0) (As := [.int (gx g (nI i + 1).toNatClampNeg), .int (gx g (nI i + 2).toNatClampNeg)]) (r := [.int v]) dL_law_789 mo12_ofRoll mv12_ofRoll lkRL_95 rfl hZM (q := (RX12, TX12, 34)) rfl rfl rfl (Nat.le_of_ble_eq_true rfl) (Nat.le_of_ble_eq_true rfl) hbud hbus (pRt_mono ?_)
  refine k12_ofRoll 389 hW hZM hm ?_
  intro _
  show Ok g (400, RL, cL_law, 4, false, rc, rs, z0, s0) Qx 792 [(0, .ref 0), (1, .ref aX), (2, .ref aM), (3, .int (nI i))] [.int v, .int v] (Z, I2, L2, O)
  refine ok_icmp_eq (t := 1720) dL_law_792 (by decide) (fun _ => ?_) (fun q => absurd rfl q)
  exact hnext _ _ _ hR2
set_option maxHeartbeats 4000000 in
set_option maxRecDepth 20000 in
theorem lcase19 {g : pG} {Qx : Option Value → pW → Prop} {Z : pZ} {n aX aM : Nat} {R : (Nat → Nat → Int32) → (Nat → Nat → Int64) → (Nat → Nat → Option Nat) → Prop} {rc rs z0 s0 i : Nat} {I : (Nat → Nat → Int32)} {L : (Nat → Nat → Int64)} {O : (Nat → Nat → Option Nat)} (hWT : ∀ I L O, R I L O → WT Z O) (hStr : StrOK g) (hZX : Z[aX]? = some (11, 11)) (hZM : Z[aM]? = some (12, 34)) (hbud : Z.length + 0 ≤ z0 + rc) (hbus : pSl Z + 0 ≤ s0 + rs) (hst19 : St19 n aX aM R) (hin1 : vp_in (nI i + 1) (gL g)) (hin2 : vp_in (nI i + 2) (gL g)) (hin3 : vp_in (nI i + 3) (gL g)) (hin4 : vp_in (nI i + 4) (gL g)) (hin5 : vp_in (nI i + 5) (gL g)) (hnext : ∀ I L O, R I L O → Ok g (400, RL, cL_law, 4, false, rc, rs, z0, s0) Qx 1720 [(0, .ref 0), (1, .ref aX), (2, .ref aM), (3, .int (nI i))] [] (Z, I, L, O)) (hR : R I L O) : Ok g (400, RL, cL_law, 4, false, rc, rs, z0, s0) Qx 797 [(0, .ref 0), (1, .ref aX), (2, .ref aM), (3, .int (nI i))] [] (Z, I, L, O) := by
  have hW := hWT I L O hR
  refine ok_aload_n dL_law_797 1 rfl ?_
  refine ok_aload_n dL_law_798 0 rfl ?_
  refine ok_iload_n dL_law_799 3 rfl ?_
  refine ok_iconst (v := 1) dL_law_800 (by decide) ?_
  refine ok_iadd dL_law_801 ?_
  refine ok_sld dL_law_802 hin1 ?_
  refine ok_aload_n dL_law_803 0 rfl ?_
  refine ok_iload_n dL_law_804 3 rfl ?_
  refine ok_iconst (v := 2) dL_law_805 (by decide) ?_
  refine ok_iadd dL_law_806 ?_
  refine ok_sld dL_law_807 hin2 ?_
  refine ok_aload_n dL_law_808 0 rfl ?_
  refine ok_iload_n dL_law_809 3 rfl ?_
  refine ok_iconst (v := 3) dL_law_810 (by decide) ?_
  refine ok_iadd dL_law_811 ?_
  refine ok_sld dL_law_812 hin3 ?_
  obtain ⟨v, I1, I2, L2, hx, hm, hR2⟩ := hst19 I L O (gx g (nI i + 1).toNatClampNeg) (gx g (nI i + 2).toNatClampNeg) (gx g (nI i + 3).toNatClampNeg)  hR
  refine ok_callV (d := (393 + 6)) (mt := m11_at) (mc := 0) (ms := 0) (As := [.int (gx g (nI i + 1).toNatClampNeg), .int (gx g (nI i + 2).toNatClampNeg), .int (gx g (nI i + 3).toNatClampNeg)]) (r := []) dL_law_813 mo11_at mv11_at lkRL_96 rfl hZX (q := (RX11, TX11, 11)) rfl rfl rfl (Nat.le_of_ble_eq_true rfl) (Nat.le_of_ble_eq_true rfl) hbud hbus (pRt_mono ?_)
  refine k11_at 393 hW hZX hx ?_
  intro _
  show Ok g (400, RL, cL_law, 4, false, rc, rs, z0, s0) Qx 816 [(0, .ref 0), (1, .ref aX), (2, .ref aM), (3, .int (nI i))] [.int v] (Z, I1, L, O)
  refine ok_aload_n dL_law_816 2 rfl ?_
  refine ok_aload_n dL_law_817 0 rfl ?_
  refine ok_iload_n dL_law_818 3 rfl ?_
  refine ok_iconst (v := 1) dL_law_819 (by decide) ?_
  refine ok_iadd dL_law_820 ?_
  refine ok_sld dL_law_821 hin1 ?_
  refine ok_aload_n dL_law_822 0 rfl ?_
  refine ok_iload_n dL_law_823 3 rfl ?_
  refine ok_iconst (v := 2) dL_law_824 (by decide) ?_
  refine ok_iadd dL_law_825 ?_
  refine ok_sld dL_law_826 hin2 ?_
  refine ok_aload_n dL_law_827 0 rfl ?_
  refine ok_iload_n dL_law_828 3 rfl ?_
  refine ok_iconst (v := 3) dL_law_829 (by decide) ?_
  refine ok_iadd dL_law_830 ?_
  refine ok_sld dL_law_831 hin3 ?_
  refine ok_callV (d := (390 + 9)) (mt := m12_at) (mc := 0) (ms := 0) (As := [.int (gx g (nI i + 1).toNatClampNeg), .int (gx g (nI i + 2).toNatClampNeg), .int (gx g (nI i + 3).toNatClampNeg)]) (r := [.int v]) dL_law_832 mo12_at mv12_at lkRL_100 rfl hZM (q := (RX12, TX12, 34)) rfl rfl rfl (Nat.le_of_ble_eq_true rfl) (Nat.le_of_ble_eq_true rfl) hbud hbus (pRt_mono ?_)
  refine k12_at 390 hW hZM hm ?_
  intro _
  show Ok g (400, RL, cL_law, 4, false, rc, rs, z0, s0) Qx 835 [(0, .ref 0), (1, .ref aX), (2, .ref aM), (3, .int (nI i))] [.int v, .int v] (Z, I2, L2, O)
  refine ok_icmp_eq (t := 1720) dL_law_835 (by decide) (fun _ => ?_) (fun q => absurd rfl q)
  exact hnext _ _ _ hR2
set_option maxHeartbeats 4000000 in
set_option maxRecDepth 20000 in
theorem lcase20 {g : pG} {Qx : Option Value → pW → Prop} {Z : pZ} {n aX aM : Nat} {R : (Nat → Nat → Int32) → (Nat → Nat → Int64) → (Nat → Nat → Option Nat) → Prop} {rc rs z0 s0 i : Nat} {I : (Nat → Nat → Int32)} {L : (Nat → Nat → Int64)} {O : (Nat → Nat → Option Nat)} (hWT : ∀ I L O, R I L O → WT Z O) (hStr : StrOK g) (hZX : Z[aX]? = some (11, 11)) (hZM : Z[aM]? = some (12, 34)) (hbud : Z.length + 0 ≤ z0 + rc) (hbus : pSl Z + 0 ≤ s0 + rs) (hst20 : St20 n aX aM R) (hin1 : vp_in (nI i + 1) (gL g)) (hin2 : vp_in (nI i + 2) (gL g)) (hin3 : vp_in (nI i + 3) (gL g)) (hin4 : vp_in (nI i + 4) (gL g)) (hin5 : vp_in (nI i + 5) (gL g)) (hnext : ∀ I L O, R I L O → Ok g (400, RL, cL_law, 4, false, rc, rs, z0, s0) Qx 1720 [(0, .ref 0), (1, .ref aX), (2, .ref aM), (3, .int (nI i))] [] (Z, I, L, O)) (hR : R I L O) : Ok g (400, RL, cL_law, 4, false, rc, rs, z0, s0) Qx 840 [(0, .ref 0), (1, .ref aX), (2, .ref aM), (3, .int (nI i))] [] (Z, I, L, O) := by
  have hW := hWT I L O hR
  refine ok_aload_n dL_law_840 1 rfl ?_
  refine ok_aload_n dL_law_841 0 rfl ?_
  refine ok_iload_n dL_law_842 3 rfl ?_
  refine ok_iconst (v := 1) dL_law_843 (by decide) ?_
  refine ok_iadd dL_law_844 ?_
  refine ok_sld dL_law_845 hin1 ?_
  refine ok_aload_n dL_law_846 0 rfl ?_
  refine ok_iload_n dL_law_847 3 rfl ?_
  refine ok_iconst (v := 2) dL_law_848 (by decide) ?_
  refine ok_iadd dL_law_849 ?_
  refine ok_sld dL_law_850 hin2 ?_
  refine ok_aload_n dL_law_851 0 rfl ?_
  refine ok_iload_n dL_law_852 3 rfl ?_
  refine ok_iconst (v := 3) dL_law_853 (by decide) ?_
  refine ok_iadd dL_law_854 ?_
  refine ok_sld dL_law_855 hin3 ?_
  refine ok_aload_n dL_law_856 0 rfl ?_
  refine ok_iload_n dL_law_857 3 rfl ?_
  refine ok_iconst (v := 4) dL_law_858 (by decide) ?_
  refine ok_iadd dL_law_859 ?_
  refine ok_sld dL_law_860 hin4 ?_
  refine ok_if_eq (t := 868) dL_law_861 (by decide) (fun hp4 => ?_) (fun hp4 => ?_)
  · refine ok_iconst (v := 0) dL_law_868 (by decide) ?_
    obtain ⟨v, I1, I2, L2, hx, hm, hR2⟩ := hst20 I L O (gx g (nI i + 1).toNatClampNeg) (gx g (nI i + 2).toNatClampNeg) (gx g (nI i + 3).toNatClampNeg) 0 (Or.inl rfl) hR
    refine ok_callV (d := (393 + 6)) (mt := m11_law) (mc := 0) (ms := 0) (As := [.int (gx g (nI i + 1).toNatClampNeg), .int (gx g (nI i + 2).toNatClampNeg), .int (gx g (nI i + 3).toNatClampNeg), .int 0]) (r := []) dL_law_869 mo11_law mv11_law lkRL_101 rfl hZX (q := (RX11, TX11, 11)) rfl rfl rfl (Nat.le_of_ble_eq_true rfl) (Nat.le_of_ble_eq_true rfl) hbud hbus (pRt_mono ?_)
    refine k11_law 393 hW hZX hx ?_
    intro _
    show Ok g (400, RL, cL_law, 4, false, rc, rs, z0, s0) Qx 872 [(0, .ref 0), (1, .ref aX), (2, .ref aM), (3, .int (nI i))] [.int v] (Z, I1, L, O)
    refine ok_aload_n dL_law_872 2 rfl ?_
    refine ok_aload_n dL_law_873 0 rfl ?_
    refine ok_iload_n dL_law_874 3 rfl ?_
    refine ok_iconst (v := 1) dL_law_875 (by decide) ?_
    refine ok_iadd dL_law_876 ?_
    refine ok_sld dL_law_877 hin1 ?_
    refine ok_aload_n dL_law_878 0 rfl ?_
    refine ok_iload_n dL_law_879 3 rfl ?_
    refine ok_iconst (v := 2) dL_law_880 (by decide) ?_
    refine ok_iadd dL_law_881 ?_
    refine ok_sld dL_law_882 hin2 ?_
    refine ok_aload_n dL_law_883 0 rfl ?_
    refine ok_iload_n dL_law_884 3 rfl ?_
    refine ok_iconst (v := 3) dL_law_885 (by decide) ?_
    refine ok_iadd dL_law_886 ?_
    refine ok_sld dL_law_887 hin3 ?_
    refine ok_aload_n dL_law_888 0 rfl ?_
    refine ok_iload_n dL_law_889 3 rfl ?_
    refine ok_iconst (v := 4) dL_law_890 (by decide) ?_
    refine ok_iadd dL_law_891 ?_
    refine ok_sld dL_law_892 hin4 ?_
    refine ok_if_eq (t := 900) dL_law_893 (by decide) (fun _ => ?_) (fun q => absurd hp4 q)
    refine ok_iconst (v := 0) dL_law_900 (by decide) ?_
    refine ok_callV (d := (390 + 9)) (mt := m12_law) (mc := 0) (ms := 0) (As := [.int (gx g (nI i + 1).toNatClampNeg), .int (gx g (nI i + 2).toNatClampNeg), .int (gx g (nI i + 3).toNatClampNeg), .int 0]) (r := [.int v]) dL_law_901 mo12_law mv12_law lkRL_105 rfl hZM (q := (RX12, TX12, 34)) rfl rfl rfl (Nat.le_of_ble_eq_true rfl) (Nat.le_of_ble_eq_true rfl) hbud hbus (pRt_mono ?_)
    refine k12_law 390 hW hZM hm ?_
    intro _
    show Ok g (400, RL, cL_law, 4, false, rc, rs, z0, s0) Qx 904 [(0, .ref 0), (1, .ref aX), (2, .ref aM), (3, .int (nI i))] [.int v, .int v] (Z, I2, L2, O)
    refine ok_icmp_eq (t := 1720) dL_law_904 (by decide) (fun _ => ?_) (fun q => absurd rfl q)
    exact hnext _ _ _ hR2
  · refine ok_iconst (v := 1) dL_law_864 (by decide) ?_
    refine ok_goto (t := 869) dL_law_865 (by decide) ?_
    obtain ⟨v, I1, I2, L2, hx, hm, hR2⟩ := hst20 I L O (gx g (nI i + 1).toNatClampNeg) (gx g (nI i + 2).toNatClampNeg) (gx g (nI i + 3).toNatClampNeg) 1 (Or.inr rfl) hR
    refine ok_callV (d := (393 + 6)) (mt := m11_law) (mc := 0) (ms := 0) (As := [.int (gx g (nI i + 1).toNatClampNeg), .int (gx g (nI i + 2).toNatClampNeg), .int (gx g (nI i + 3).toNatClampNeg), .int 1]) (r := []) dL_law_869 mo11_law mv11_law lkRL_101 rfl hZX (q := (RX11, TX11, 11)) rfl rfl rfl (Nat.le_of_ble_eq_true rfl) (Nat.le_of_ble_eq_true rfl) hbud hbus (pRt_mono ?_)
    refine k11_law 393 hW hZX hx ?_
    intro _
    show Ok g (400, RL, cL_law, 4, false, rc, rs, z0, s0) Qx 872 [(0, .ref 0), (1, .ref aX), (2, .ref aM), (3, .int (nI i))] [.int v] (Z, I1, L, O)
    refine ok_aload_n dL_law_872 2 rfl ?_
    refine ok_aload_n dL_law_873 0 rfl ?_
    refine ok_iload_n dL_law_874 3 rfl ?_
    refine ok_iconst (v := 1) dL_law_875 (by decide) ?_
    refine ok_iadd dL_law_876 ?_
    refine ok_sld dL_law_877 hin1 ?_
    refine ok_aload_n dL_law_878 0 rfl ?_
    refine ok_iload_n dL_law_879 3 rfl ?_
    refine ok_iconst (v := 2) dL_law_880 (by decide) ?_
    refine ok_iadd dL_law_881 ?_
    refine ok_sld dL_law_882 hin2 ?_
    refine ok_aload_n dL_law_883 0 rfl ?_
    refine ok_iload_n dL_law_884 3 rfl ?_
    refine ok_iconst (v := 3) dL_law_885 (by decide) ?_
    refine ok_iadd dL_law_886 ?_
    refine ok_sld dL_law_887 hin3 ?_
    refine ok_aload_n dL_law_888 0 rfl ?_
    refine ok_iload_n dL_law_889 3 rfl ?_
    refine ok_iconst (v := 4) dL_law_890 (by decide) ?_
    refine ok_iadd dL_law_891 ?_
    refine ok_sld dL_law_892 hin4 ?_
    refine ok_if_eq (t := 900) dL_law_893 (by decide) (fun q => absurd q hp4) (fun _ => ?_)
    refine ok_iconst (v := 1) dL_law_896 (by decide) ?_
    refine ok_goto (t := 901) dL_law_897 (by decide) ?_
    refine ok_callV (d := (390 + 9)) (mt := m12_law) (mc := 0) (ms := 0) (As := [.int (gx g (nI i + 1).toNatClampNeg), .int (gx g (nI i + 2).toNatClampNeg), .int (gx g (nI i + 3).toNatClampNeg), .int 1]) (r := [.int v]) dL_law_901 mo12_law mv12_law lkRL_105 rfl hZM (q := (RX12, TX12, 34)) rfl rfl rfl (Nat.le_of_ble_eq_true rfl) (Nat.le_of_ble_eq_true rfl) hbud hbus (pRt_mono ?_)
    refine k12_law 390 hW hZM hm ?_
    intro _
    show Ok g (400, RL, cL_law, 4, false, rc, rs, z0, s0) Qx 904 [(0, .ref 0), (1, .ref aX), (2, .ref aM), (3, .int (nI i))] [.int v, .int v] (Z, I2, L2, O)
    refine ok_icmp_eq (t := 1720) dL_law_904 (by decide) (fun _ => ?_) (fun q => absurd rfl q)
    exact hnext _ _ _ hR2
set_option maxHeartbeats 4000000 in
set_option maxRecDepth 20000 in
theorem lcase21 {g : pG} {Qx : Option Value → pW → Prop} {Z : pZ} {n aX aM : Nat} {R : (Nat → Nat → Int32) → (Nat → Nat → Int64) → (Nat → Nat → Option Nat) → Prop} {rc rs z0 s0 i : Nat} {I : (Nat → Nat → Int32)} {L : (Nat → Nat → Int64)} {O : (Nat → Nat → Option Nat)} (hWT : ∀ I L O, R I L O → WT Z O) (hStr : StrOK g) (hZX : Z[aX]? = some (11, 11)) (hZM : Z[aM]? = some (12, 34)) (hbud : Z.length + 0 ≤ z0 + rc) (hbus : pSl Z + 0 ≤ s0 + rs) (hst21 : St21 n aX aM R) (hin1 : vp_in (nI i + 1) (gL g)) (hin2 : vp_in (nI i + 2) (gL g)) (hin3 : vp_in (nI i + 3) (gL g)) (hin4 : vp_in (nI i + 4) (gL g)) (hin5 : vp_in (nI i + 5) (gL g)) (hnext : ∀ I L O, R I L O → Ok g (400, RL, cL_law, 4, false, rc, rs, z0, s0) Qx 1720 [(0, .ref 0), (1, .ref aX), (2, .ref aM), (3, .int (nI i))] [] (Z, I, L, O)) (hR : R I L O) : Ok g (400, RL, cL_law, 4, false, rc, rs, z0, s0) Qx 909 [(0, .ref 0), (1, .ref aX), (2, .ref aM), (3, .int (nI i))] [] (Z, I, L, O) := by
  have hW := hWT I L O hR
  refine ok_aload_n dL_law_909 1 rfl ?_
  refine ok_aload_n dL_law_910 0 rfl ?_
  refine ok_iload_n dL_law_911 3 rfl ?_
  refine ok_iconst (v := 1) dL_law_912 (by decide) ?_
  refine ok_iadd dL_law_913 ?_
  refine ok_sld dL_law_914 hin1 ?_
  obtain ⟨v, hx, hm, hR2⟩ := hst21 I L O (gx g (nI i + 1).toNatClampNeg)  hR
  refine ok_callV (d := (397 + 2)) (mt := m11_is) (mc := 0) (ms := 0) (As := [.int (gx g (nI i + 1).toNatClampNeg)]) (r := []) dL_law_915 mo11_is mv11_is lkRL_106 rfl hZX (q := (RX11, TX11, 11)) rfl rfl rfl (Nat.le_of_ble_eq_true rfl) (Nat.le_of_ble_eq_true rfl) hbud hbus (pRt_mono ?_)
  refine k11_is 397 hW hZX hx ?_
  intro _
  show Ok g (400, RL, cL_law, 4, false, rc, rs, z0, s0) Qx 918 [(0, .ref 0), (1, .ref aX), (2, .ref aM), (3, .int (nI i))] [.int v] (Z, I, L, O)
  refine ok_aload_n dL_law_918 2 rfl ?_
  refine ok_aload_n dL_law_919 0 rfl ?_
  refine ok_iload_n dL_law_920 3 rfl ?_
  refine ok_iconst (v := 1) dL_law_921 (by decide) ?_
  refine ok_iadd dL_law_922 ?_
  refine ok_sld dL_law_923 hin1 ?_
  refine ok_callV (d := (396 + 3)) (mt := m12_is) (mc := 0) (ms := 0) (As := [.int (gx g (nI i + 1).toNatClampNeg)]) (r := [.int v]) dL_law_924 mo12_is mv12_is lkRL_109 rfl hZM (q := (RX12, TX12, 34)) rfl rfl rfl (Nat.le_of_ble_eq_true rfl) (Nat.le_of_ble_eq_true rfl) hbud hbus (pRt_mono ?_)
  refine k12_is 396 hW hZM hm ?_
  intro _
  show Ok g (400, RL, cL_law, 4, false, rc, rs, z0, s0) Qx 927 [(0, .ref 0), (1, .ref aX), (2, .ref aM), (3, .int (nI i))] [.int v, .int v] (Z, I, L, O)
  refine ok_icmp_eq (t := 1720) dL_law_927 (by decide) (fun _ => ?_) (fun q => absurd rfl q)
  exact hnext _ _ _ hR2
set_option maxHeartbeats 4000000 in
set_option maxRecDepth 20000 in
theorem lcase22 {g : pG} {Qx : Option Value → pW → Prop} {Z : pZ} {n aX aM : Nat} {R : (Nat → Nat → Int32) → (Nat → Nat → Int64) → (Nat → Nat → Option Nat) → Prop} {rc rs z0 s0 i : Nat} {I : (Nat → Nat → Int32)} {L : (Nat → Nat → Int64)} {O : (Nat → Nat → Option Nat)} (hWT : ∀ I L O, R I L O → WT Z O) (hStr : StrOK g) (hZX : Z[aX]? = some (11, 11)) (hZM : Z[aM]? = some (12, 34)) (hbud : Z.length + 0 ≤ z0 + rc) (hbus : pSl Z + 0 ≤ s0 + rs) (hst22 : St22 n aX aM R) (hin1 : vp_in (nI i + 1) (gL g)) (hin2 : vp_in (nI i + 2) (gL g)) (hin3 : vp_in (nI i + 3) (gL g)) (hin4 : vp_in (nI i + 4) (gL g)) (hin5 : vp_in (nI i + 5) (gL g)) (hnext : ∀ I L O, R I L O → Ok g (400, RL, cL_law, 4, false, rc, rs, z0, s0) Qx 1720 [(0, .ref 0), (1, .ref aX), (2, .ref aM), (3, .int (nI i))] [] (Z, I, L, O)) (hR : R I L O) : Ok g (400, RL, cL_law, 4, false, rc, rs, z0, s0) Qx 932 [(0, .ref 0), (1, .ref aX), (2, .ref aM), (3, .int (nI i))] [] (Z, I, L, O) := by
  have hW := hWT I L O hR
  refine ok_aload_n dL_law_932 1 rfl ?_
  refine ok_aload_n dL_law_933 0 rfl ?_
  refine ok_iload_n dL_law_934 3 rfl ?_
  refine ok_iconst (v := 1) dL_law_935 (by decide) ?_
  refine ok_iadd dL_law_936 ?_
  refine ok_sld dL_law_937 hin1 ?_
  refine ok_aload_n dL_law_938 0 rfl ?_
  refine ok_iload_n dL_law_939 3 rfl ?_
  refine ok_iconst (v := 2) dL_law_940 (by decide) ?_
  refine ok_iadd dL_law_941 ?_
  refine ok_sld dL_law_942 hin2 ?_
  obtain ⟨v, hx, hm, hR2⟩ := hst22 I L O (gx g (nI i + 1).toNatClampNeg) (gx g (nI i + 2).toNatClampNeg)  hR
  refine ok_callV (d := (396 + 3)) (mt := m11_book) (mc := 0) (ms := 0) (As := [.int (gx g (nI i + 1).toNatClampNeg), .int (gx g (nI i + 2).toNatClampNeg)]) (r := []) dL_law_943 mo11_book mv11_book lkRL_110 rfl hZX (q := (RX11, TX11, 11)) rfl rfl rfl (Nat.le_of_ble_eq_true rfl) (Nat.le_of_ble_eq_true rfl) hbud hbus (pRt_mono ?_)
  refine k11_book 396 hW hZX hx ?_
  intro _
  show Ok g (400, RL, cL_law, 4, false, rc, rs, z0, s0) Qx 946 [(0, .ref 0), (1, .ref aX), (2, .ref aM), (3, .int (nI i))] [.int v] (Z, I, L, O)
  refine ok_aload_n dL_law_946 2 rfl ?_
  refine ok_aload_n dL_law_947 0 rfl ?_
  refine ok_iload_n dL_law_948 3 rfl ?_
  refine ok_iconst (v := 1) dL_law_949 (by decide) ?_
  refine ok_iadd dL_law_950 ?_
  refine ok_sld dL_law_951 hin1 ?_
  refine ok_aload_n dL_law_952 0 rfl ?_
  refine ok_iload_n dL_law_953 3 rfl ?_
  refine ok_iconst (v := 2) dL_law_954 (by decide) ?_
  refine ok_iadd dL_law_955 ?_
  refine ok_sld dL_law_956 hin2 ?_
  refine ok_callV (d := (396 + 3)) (mt := m12_book) (mc := 0) (ms := 0) (As := [.int (gx g (nI i + 1).toNatClampNeg), .int (gx g (nI i + 2).toNatClampNeg)]) (r := [.int v]) dL_law_957 mo12_book mv12_book lkRL_113 rfl hZM (q := (RX12, TX12, 34)) rfl rfl rfl (Nat.le_of_ble_eq_true rfl) (Nat.le_of_ble_eq_true rfl) hbud hbus (pRt_mono ?_)
  refine k12_book 396 hW hZM hm ?_
  intro _
  show Ok g (400, RL, cL_law, 4, false, rc, rs, z0, s0) Qx 960 [(0, .ref 0), (1, .ref aX), (2, .ref aM), (3, .int (nI i))] [.int v, .int v] (Z, I, L, O)
  refine ok_icmp_eq (t := 1720) dL_law_960 (by decide) (fun _ => ?_) (fun q => absurd rfl q)
  exact hnext _ _ _ hR2
set_option maxHeartbeats 4000000 in
set_option maxRecDepth 20000 in
theorem lcase23 {g : pG} {Qx : Option Value → pW → Prop} {Z : pZ} {n aX aM : Nat} {R : (Nat → Nat → Int32) → (Nat → Nat → Int64) → (Nat → Nat → Option Nat) → Prop} {rc rs z0 s0 i : Nat} {I : (Nat → Nat → Int32)} {L : (Nat → Nat → Int64)} {O : (Nat → Nat → Option Nat)} (hWT : ∀ I L O, R I L O → WT Z O) (hStr : StrOK g) (hZX : Z[aX]? = some (11, 11)) (hZM : Z[aM]? = some (12, 34)) (hbud : Z.length + 0 ≤ z0 + rc) (hbus : pSl Z + 0 ≤ s0 + rs) (hst23 : St23 n aX aM R) (hin1 : vp_in (nI i + 1) (gL g)) (hin2 : vp_in (nI i + 2) (gL g)) (hin3 : vp_in (nI i + 3) (gL g)) (hin4 : vp_in (nI i + 4) (gL g)) (hin5 : vp_in (nI i + 5) (gL g)) (hnext : ∀ I L O, R I L O → Ok g (400, RL, cL_law, 4, false, rc, rs, z0, s0) Qx 1720 [(0, .ref 0), (1, .ref aX), (2, .ref aM), (3, .int (nI i))] [] (Z, I, L, O)) (hR : R I L O) : Ok g (400, RL, cL_law, 4, false, rc, rs, z0, s0) Qx 965 [(0, .ref 0), (1, .ref aX), (2, .ref aM), (3, .int (nI i))] [] (Z, I, L, O) := by
  have hW := hWT I L O hR
  refine ok_aload_n dL_law_965 1 rfl ?_
  refine ok_aload_n dL_law_966 0 rfl ?_
  refine ok_iload_n dL_law_967 3 rfl ?_
  refine ok_iconst (v := 1) dL_law_968 (by decide) ?_
  refine ok_iadd dL_law_969 ?_
  refine ok_sld dL_law_970 hin1 ?_
  refine ok_aload_n dL_law_971 0 rfl ?_
  refine ok_iload_n dL_law_972 3 rfl ?_
  refine ok_iconst (v := 2) dL_law_973 (by decide) ?_
  refine ok_iadd dL_law_974 ?_
  refine ok_sld dL_law_975 hin2 ?_
  refine ok_aload_n dL_law_976 0 rfl ?_
  refine ok_iload_n dL_law_977 3 rfl ?_
  refine ok_iconst (v := 3) dL_law_978 (by decide) ?_
  refine ok_iadd dL_law_979 ?_
  refine ok_sld dL_law_980 hin3 ?_
  obtain ⟨v, I1, I2, L2, hx, hm, hR2⟩ := hst23 I L O (gx g (nI i + 1).toNatClampNeg) (gx g (nI i + 2).toNatClampNeg) (gx g (nI i + 3).toNatClampNeg)  hR
  refine ok_callV (d := (391 + 8)) (mt := m11_foretold) (mc := 0) (ms := 0) (As := [.int (gx g (nI i + 1).toNatClampNeg), .int (gx g (nI i + 2).toNatClampNeg), .int (gx g (nI i + 3).toNatClampNeg)]) (r := []) dL_law_981 mo11_foretold mv11_foretold lkRL_114 rfl hZX (q := (RX11, TX11, 11)) rfl rfl rfl (Nat.le_of_ble_eq_true rfl) (Nat.le_of_ble_eq_true rfl) hbud hbus (pRt_mono ?_)
  refine k11_foretold 391 hW hZX hx ?_
  intro _
  show Ok g (400, RL, cL_law, 4, false, rc, rs, z0, s0) Qx 984 [(0, .ref 0), (1, .ref aX), (2, .ref aM), (3, .int (nI i))] [.int v] (Z, I1, L, O)
  refine ok_aload_n dL_law_984 2 rfl ?_
  refine ok_aload_n dL_law_985 0 rfl ?_
  refine ok_iload_n dL_law_986 3 rfl ?_
  refine ok_iconst (v := 1) dL_law_987 (by decide) ?_
  refine ok_iadd dL_law_988 ?_
  refine ok_sld dL_law_989 hin1 ?_
  refine ok_aload_n dL_law_990 0 rfl ?_
  refine ok_iload_n dL_law_991 3 rfl ?_
  refine ok_iconst (v := 2) dL_law_992 (by decide) ?_
  refine ok_iadd dL_law_993 ?_
  refine ok_sld dL_law_994 hin2 ?_
  refine ok_aload_n dL_law_995 0 rfl ?_
  refine ok_iload_n dL_law_996 3 rfl ?_
  refine ok_iconst (v := 3) dL_law_997 (by decide) ?_
  refine ok_iadd dL_law_998 ?_
  refine ok_sld dL_law_999 hin3 ?_
  refine ok_callV (d := (388 + 11)) (mt := m12_foretold) (mc := 0) (ms := 0) (As := [.int (gx g (nI i + 1).toNatClampNeg), .int (gx g (nI i + 2).toNatClampNeg), .int (gx g (nI i + 3).toNatClampNeg)]) (r := [.int v]) dL_law_1000 mo12_foretold mv12_foretold lkRL_117 rfl hZM (q := (RX12, TX12, 34)) rfl rfl rfl (Nat.le_of_ble_eq_true rfl) (Nat.le_of_ble_eq_true rfl) hbud hbus (pRt_mono ?_)
  refine k12_foretold 388 hW hZM hm ?_
  intro _
  show Ok g (400, RL, cL_law, 4, false, rc, rs, z0, s0) Qx 1003 [(0, .ref 0), (1, .ref aX), (2, .ref aM), (3, .int (nI i))] [.int v, .int v] (Z, I2, L2, O)
  refine ok_icmp_eq (t := 1720) dL_law_1003 (by decide) (fun _ => ?_) (fun q => absurd rfl q)
  exact hnext _ _ _ hR2
set_option maxHeartbeats 4000000 in
set_option maxRecDepth 20000 in
theorem lcase24 {g : pG} {Qx : Option Value → pW → Prop} {Z : pZ} {n aX aM : Nat} {R : (Nat → Nat → Int32) → (Nat → Nat → Int64) → (Nat → Nat → Option Nat) → Prop} {rc rs z0 s0 i : Nat} {I : (Nat → Nat → Int32)} {L : (Nat → Nat → Int64)} {O : (Nat → Nat → Option Nat)} (hWT : ∀ I L O, R I L O → WT Z O) (hStr : StrOK g) (hZX : Z[aX]? = some (11, 11)) (hZM : Z[aM]? = some (12, 34)) (hbud : Z.length + 0 ≤ z0 + rc) (hbus : pSl Z + 0 ≤ s0 + rs) (hst24 : St24 n aX aM R) (hin1 : vp_in (nI i + 1) (gL g)) (hin2 : vp_in (nI i + 2) (gL g)) (hin3 : vp_in (nI i + 3) (gL g)) (hin4 : vp_in (nI i + 4) (gL g)) (hin5 : vp_in (nI i + 5) (gL g)) (hnext : ∀ I L O, R I L O → Ok g (400, RL, cL_law, 4, false, rc, rs, z0, s0) Qx 1720 [(0, .ref 0), (1, .ref aX), (2, .ref aM), (3, .int (nI i))] [] (Z, I, L, O)) (hR : R I L O) : Ok g (400, RL, cL_law, 4, false, rc, rs, z0, s0) Qx 1008 [(0, .ref 0), (1, .ref aX), (2, .ref aM), (3, .int (nI i))] [] (Z, I, L, O) := by
  have hW := hWT I L O hR
  refine ok_aload_n dL_law_1008 1 rfl ?_
  refine ok_aload_n dL_law_1009 0 rfl ?_
  refine ok_iload_n dL_law_1010 3 rfl ?_
  refine ok_iconst (v := 1) dL_law_1011 (by decide) ?_
  refine ok_iadd dL_law_1012 ?_
  refine ok_sld dL_law_1013 hin1 ?_
  refine ok_aload_n dL_law_1014 0 rfl ?_
  refine ok_iload_n dL_law_1015 3 rfl ?_
  refine ok_iconst (v := 2) dL_law_1016 (by decide) ?_
  refine ok_iadd dL_law_1017 ?_
  refine ok_sld dL_law_1018 hin2 ?_
  obtain ⟨v, I1, I2, hx, hm, hR2⟩ := hst24 I L O (gx g (nI i + 1).toNatClampNeg) (gx g (nI i + 2).toNatClampNeg)  hR
  refine ok_callV (d := (393 + 6)) (mt := m11_edit) (mc := 0) (ms := 0) (As := [.int (gx g (nI i + 1).toNatClampNeg), .int (gx g (nI i + 2).toNatClampNeg)]) (r := []) dL_law_1019 mo11_edit mv11_edit lkRL_118 rfl hZX (q := (RX11, TX11, 11)) rfl rfl rfl (Nat.le_of_ble_eq_true rfl) (Nat.le_of_ble_eq_true rfl) hbud hbus (pRt_mono ?_)
  refine k11_edit 393 hW hZX hx ?_
  intro _
  show Ok g (400, RL, cL_law, 4, false, rc, rs, z0, s0) Qx 1022 [(0, .ref 0), (1, .ref aX), (2, .ref aM), (3, .int (nI i))] [.int v] (Z, I1, L, O)
  refine ok_aload_n dL_law_1022 2 rfl ?_
  refine ok_aload_n dL_law_1023 0 rfl ?_
  refine ok_iload_n dL_law_1024 3 rfl ?_
  refine ok_iconst (v := 1) dL_law_1025 (by decide) ?_
  refine ok_iadd dL_law_1026 ?_
  refine ok_sld dL_law_1027 hin1 ?_
  refine ok_aload_n dL_law_1028 0 rfl ?_
  refine ok_iload_n dL_law_1029 3 rfl ?_
  refine ok_iconst (v := 2) dL_law_1030 (by decide) ?_
  refine ok_iadd dL_law_1031 ?_
  refine ok_sld dL_law_1032 hin2 ?_
  refine ok_callV (d := (394 + 5)) (mt := m12_edit) (mc := 0) (ms := 0) (As := [.int (gx g (nI i + 1).toNatClampNeg), .int (gx g (nI i + 2).toNatClampNeg)]) (r := [.int v]) dL_law_1033 mo12_edit mv12_edit lkRL_121 rfl hZM (q := (RX12, TX12, 34)) rfl rfl rfl (Nat.le_of_ble_eq_true rfl) (Nat.le_of_ble_eq_true rfl) hbud hbus (pRt_mono ?_)
  refine k12_edit 394 hW hZM hm ?_
  intro _
  show Ok g (400, RL, cL_law, 4, false, rc, rs, z0, s0) Qx 1036 [(0, .ref 0), (1, .ref aX), (2, .ref aM), (3, .int (nI i))] [.int v, .int v] (Z, I2, L, O)
  refine ok_icmp_eq (t := 1720) dL_law_1036 (by decide) (fun _ => ?_) (fun q => absurd rfl q)
  exact hnext _ _ _ hR2
set_option maxHeartbeats 4000000 in
set_option maxRecDepth 20000 in
theorem lcase25 {g : pG} {Qx : Option Value → pW → Prop} {Z : pZ} {n aX aM : Nat} {R : (Nat → Nat → Int32) → (Nat → Nat → Int64) → (Nat → Nat → Option Nat) → Prop} {rc rs z0 s0 i : Nat} {I : (Nat → Nat → Int32)} {L : (Nat → Nat → Int64)} {O : (Nat → Nat → Option Nat)} (hWT : ∀ I L O, R I L O → WT Z O) (hStr : StrOK g) (hZX : Z[aX]? = some (11, 11)) (hZM : Z[aM]? = some (12, 34)) (hbud : Z.length + 0 ≤ z0 + rc) (hbus : pSl Z + 0 ≤ s0 + rs) (hst25 : St25 n aX aM R) (hin1 : vp_in (nI i + 1) (gL g)) (hin2 : vp_in (nI i + 2) (gL g)) (hin3 : vp_in (nI i + 3) (gL g)) (hin4 : vp_in (nI i + 4) (gL g)) (hin5 : vp_in (nI i + 5) (gL g)) (hnext : ∀ I L O, R I L O → Ok g (400, RL, cL_law, 4, false, rc, rs, z0, s0) Qx 1720 [(0, .ref 0), (1, .ref aX), (2, .ref aM), (3, .int (nI i))] [] (Z, I, L, O)) (hR : R I L O) : Ok g (400, RL, cL_law, 4, false, rc, rs, z0, s0) Qx 1041 [(0, .ref 0), (1, .ref aX), (2, .ref aM), (3, .int (nI i))] [] (Z, I, L, O) := by
  have hW := hWT I L O hR
  refine ok_aload_n dL_law_1041 1 rfl ?_
  refine ok_aload_n dL_law_1042 0 rfl ?_
  refine ok_iload_n dL_law_1043 3 rfl ?_
  refine ok_iconst (v := 1) dL_law_1044 (by decide) ?_
  refine ok_iadd dL_law_1045 ?_
  refine ok_sld dL_law_1046 hin1 ?_
  refine ok_aload_n dL_law_1047 0 rfl ?_
  refine ok_iload_n dL_law_1048 3 rfl ?_
  refine ok_iconst (v := 2) dL_law_1049 (by decide) ?_
  refine ok_iadd dL_law_1050 ?_
  refine ok_sld dL_law_1051 hin2 ?_
  refine ok_aload_n dL_law_1052 0 rfl ?_
  refine ok_iload_n dL_law_1053 3 rfl ?_
  refine ok_iconst (v := 3) dL_law_1054 (by decide) ?_
  refine ok_iadd dL_law_1055 ?_
  refine ok_sld dL_law_1056 hin3 ?_
  obtain ⟨v, I1, I2, hx, hm, hR2⟩ := hst25 I L O (gx g (nI i + 1).toNatClampNeg) (gx g (nI i + 2).toNatClampNeg) (gx g (nI i + 3).toNatClampNeg)  hR
  refine ok_callV (d := (392 + 7)) (mt := m11_common) (mc := 0) (ms := 0) (As := [.int (gx g (nI i + 1).toNatClampNeg), .int (gx g (nI i + 2).toNatClampNeg), .int (gx g (nI i + 3).toNatClampNeg)]) (r := []) dL_law_1057 mo11_common mv11_common lkRL_122 rfl hZX (q := (RX11, TX11, 11)) rfl rfl rfl (Nat.le_of_ble_eq_true rfl) (Nat.le_of_ble_eq_true rfl) hbud hbus (pRt_mono ?_)
  refine k11_common 392 hW hZX hx ?_
  intro _
  show Ok g (400, RL, cL_law, 4, false, rc, rs, z0, s0) Qx 1060 [(0, .ref 0), (1, .ref aX), (2, .ref aM), (3, .int (nI i))] [.int v] (Z, I1, L, O)
  refine ok_aload_n dL_law_1060 2 rfl ?_
  refine ok_aload_n dL_law_1061 0 rfl ?_
  refine ok_iload_n dL_law_1062 3 rfl ?_
  refine ok_iconst (v := 1) dL_law_1063 (by decide) ?_
  refine ok_iadd dL_law_1064 ?_
  refine ok_sld dL_law_1065 hin1 ?_
  refine ok_aload_n dL_law_1066 0 rfl ?_
  refine ok_iload_n dL_law_1067 3 rfl ?_
  refine ok_iconst (v := 2) dL_law_1068 (by decide) ?_
  refine ok_iadd dL_law_1069 ?_
  refine ok_sld dL_law_1070 hin2 ?_
  refine ok_aload_n dL_law_1071 0 rfl ?_
  refine ok_iload_n dL_law_1072 3 rfl ?_
  refine ok_iconst (v := 3) dL_law_1073 (by decide) ?_
  refine ok_iadd dL_law_1074 ?_
  refine ok_sld dL_law_1075 hin3 ?_
  refine ok_callV (d := (392 + 7)) (mt := m12_common) (mc := 0) (ms := 0) (As := [.int (gx g (nI i + 1).toNatClampNeg), .int (gx g (nI i + 2).toNatClampNeg), .int (gx g (nI i + 3).toNatClampNeg)]) (r := [.int v]) dL_law_1076 mo12_common mv12_common lkRL_125 rfl hZM (q := (RX12, TX12, 34)) rfl rfl rfl (Nat.le_of_ble_eq_true rfl) (Nat.le_of_ble_eq_true rfl) hbud hbus (pRt_mono ?_)
  refine k12_common 392 hW hZM hm ?_
  intro _
  show Ok g (400, RL, cL_law, 4, false, rc, rs, z0, s0) Qx 1079 [(0, .ref 0), (1, .ref aX), (2, .ref aM), (3, .int (nI i))] [.int v, .int v] (Z, I2, L, O)
  refine ok_icmp_eq (t := 1720) dL_law_1079 (by decide) (fun _ => ?_) (fun q => absurd rfl q)
  exact hnext _ _ _ hR2
set_option maxHeartbeats 4000000 in
set_option maxRecDepth 20000 in
theorem lcase26 {g : pG} {Qx : Option Value → pW → Prop} {Z : pZ} {n aX aM : Nat} {R : (Nat → Nat → Int32) → (Nat → Nat → Int64) → (Nat → Nat → Option Nat) → Prop} {rc rs z0 s0 i : Nat} {I : (Nat → Nat → Int32)} {L : (Nat → Nat → Int64)} {O : (Nat → Nat → Option Nat)} (hWT : ∀ I L O, R I L O → WT Z O) (hStr : StrOK g) (hZX : Z[aX]? = some (11, 11)) (hZM : Z[aM]? = some (12, 34)) (hbud : Z.length + 0 ≤ z0 + rc) (hbus : pSl Z + 0 ≤ s0 + rs) (hst26 : St26 n aX aM R) (hin1 : vp_in (nI i + 1) (gL g)) (hin2 : vp_in (nI i + 2) (gL g)) (hin3 : vp_in (nI i + 3) (gL g)) (hin4 : vp_in (nI i + 4) (gL g)) (hin5 : vp_in (nI i + 5) (gL g)) (hnext : ∀ I L O, R I L O → Ok g (400, RL, cL_law, 4, false, rc, rs, z0, s0) Qx 1720 [(0, .ref 0), (1, .ref aX), (2, .ref aM), (3, .int (nI i))] [] (Z, I, L, O)) (hR : R I L O) : Ok g (400, RL, cL_law, 4, false, rc, rs, z0, s0) Qx 1084 [(0, .ref 0), (1, .ref aX), (2, .ref aM), (3, .int (nI i))] [] (Z, I, L, O) := by
  have hW := hWT I L O hR
  refine ok_aload_n dL_law_1084 1 rfl ?_
  refine ok_aload_n dL_law_1085 0 rfl ?_
  refine ok_iload_n dL_law_1086 3 rfl ?_
  refine ok_iconst (v := 1) dL_law_1087 (by decide) ?_
  refine ok_iadd dL_law_1088 ?_
  refine ok_sld dL_law_1089 hin1 ?_
  obtain ⟨v, I1, I2, hx, hm, hR2⟩ := hst26 I L O (gx g (nI i + 1).toNatClampNeg)  hR
  refine ok_callV (d := (397 + 2)) (mt := m11_phrase) (mc := 0) (ms := 0) (As := [.int (gx g (nI i + 1).toNatClampNeg)]) (r := []) dL_law_1090 mo11_phrase mv11_phrase lkRL_126 rfl hZX (q := (RX11, TX11, 11)) rfl rfl rfl (Nat.le_of_ble_eq_true rfl) (Nat.le_of_ble_eq_true rfl) hbud hbus (pRt_mono ?_)
  refine k11_phrase 397 hW hZX hx ?_
  intro _
  show Ok g (400, RL, cL_law, 4, false, rc, rs, z0, s0) Qx 1093 [(0, .ref 0), (1, .ref aX), (2, .ref aM), (3, .int (nI i))] [.int v] (Z, I1, L, O)
  refine ok_aload_n dL_law_1093 2 rfl ?_
  refine ok_aload_n dL_law_1094 0 rfl ?_
  refine ok_iload_n dL_law_1095 3 rfl ?_
  refine ok_iconst (v := 1) dL_law_1096 (by decide) ?_
  refine ok_iadd dL_law_1097 ?_
  refine ok_sld dL_law_1098 hin1 ?_
  refine ok_callV (d := (396 + 3)) (mt := m12_phrase) (mc := 0) (ms := 0) (As := [.int (gx g (nI i + 1).toNatClampNeg)]) (r := [.int v]) dL_law_1099 mo12_phrase mv12_phrase lkRL_129 rfl hZM (q := (RX12, TX12, 34)) rfl rfl rfl (Nat.le_of_ble_eq_true rfl) (Nat.le_of_ble_eq_true rfl) hbud hbus (pRt_mono ?_)
  refine k12_phrase 396 hW hZM hm ?_
  intro _
  show Ok g (400, RL, cL_law, 4, false, rc, rs, z0, s0) Qx 1102 [(0, .ref 0), (1, .ref aX), (2, .ref aM), (3, .int (nI i))] [.int v, .int v] (Z, I2, L, O)
  refine ok_icmp_eq (t := 1720) dL_law_1102 (by decide) (fun _ => ?_) (fun q => absurd rfl q)
  exact hnext _ _ _ hR2
set_option maxHeartbeats 4000000 in
set_option maxRecDepth 20000 in
theorem lcase27 {g : pG} {Qx : Option Value → pW → Prop} {Z : pZ} {n aX aM : Nat} {R : (Nat → Nat → Int32) → (Nat → Nat → Int64) → (Nat → Nat → Option Nat) → Prop} {rc rs z0 s0 i : Nat} {I : (Nat → Nat → Int32)} {L : (Nat → Nat → Int64)} {O : (Nat → Nat → Option Nat)} (hWT : ∀ I L O, R I L O → WT Z O) (hStr : StrOK g) (hZX : Z[aX]? = some (11, 11)) (hZM : Z[aM]? = some (12, 34)) (hbud : Z.length + 0 ≤ z0 + rc) (hbus : pSl Z + 0 ≤ s0 + rs) (hst27 : St27 n aX aM R) (hin1 : vp_in (nI i + 1) (gL g)) (hin2 : vp_in (nI i + 2) (gL g)) (hin3 : vp_in (nI i + 3) (gL g)) (hin4 : vp_in (nI i + 4) (gL g)) (hin5 : vp_in (nI i + 5) (gL g)) (hnext : ∀ I L O, R I L O → Ok g (400, RL, cL_law, 4, false, rc, rs, z0, s0) Qx 1720 [(0, .ref 0), (1, .ref aX), (2, .ref aM), (3, .int (nI i))] [] (Z, I, L, O)) (hR : R I L O) : Ok g (400, RL, cL_law, 4, false, rc, rs, z0, s0) Qx 1107 [(0, .ref 0), (1, .ref aX), (2, .ref aM), (3, .int (nI i))] [] (Z, I, L, O) := by
  have hW := hWT I L O hR
  refine ok_aload_n dL_law_1107 1 rfl ?_
  refine ok_aload_n dL_law_1108 0 rfl ?_
  refine ok_iload_n dL_law_1109 3 rfl ?_
  refine ok_iconst (v := 1) dL_law_1110 (by decide) ?_
  refine ok_iadd dL_law_1111 ?_
  refine ok_sld dL_law_1112 hin1 ?_
  refine ok_aload_n dL_law_1113 0 rfl ?_
  refine ok_iload_n dL_law_1114 3 rfl ?_
  refine ok_iconst (v := 2) dL_law_1115 (by decide) ?_
  refine ok_iadd dL_law_1116 ?_
  refine ok_sld dL_law_1117 hin2 ?_
  obtain ⟨v, I1, hx, hm, hR2⟩ := hst27 I L O (gx g (nI i + 1).toNatClampNeg) (gx g (nI i + 2).toNatClampNeg)  hR
  refine ok_callV (d := (393 + 6)) (mt := m11_fits) (mc := 0) (ms := 0) (As := [.int (gx g (nI i + 1).toNatClampNeg), .int (gx g (nI i + 2).toNatClampNeg)]) (r := []) dL_law_1118 mo11_fits mv11_fits lkRL_130 rfl hZX (q := (RX11, TX11, 11)) rfl rfl rfl (Nat.le_of_ble_eq_true rfl) (Nat.le_of_ble_eq_true rfl) hbud hbus (pRt_mono ?_)
  refine k11_fits 393 hW hZX hx ?_
  intro _
  show Ok g (400, RL, cL_law, 4, false, rc, rs, z0, s0) Qx 1121 [(0, .ref 0), (1, .ref aX), (2, .ref aM), (3, .int (nI i))] [.int v] (Z, I1, L, O)
  refine ok_aload_n dL_law_1121 2 rfl ?_
  refine ok_aload_n dL_law_1122 0 rfl ?_
  refine ok_iload_n dL_law_1123 3 rfl ?_
  refine ok_iconst (v := 1) dL_law_1124 (by decide) ?_
  refine ok_iadd dL_law_1125 ?_
  refine ok_sld dL_law_1126 hin1 ?_
  refine ok_aload_n dL_law_1127 0 rfl ?_
  refine ok_iload_n dL_law_1128 3 rfl ?_
  refine ok_iconst (v := 2) dL_law_1129 (by decide) ?_
  refine ok_iadd dL_law_1130 ?_
  refine ok_sld dL_law_1131 hin2 ?_
  refine ok_callV (d := (394 + 5)) (mt := m12_fits) (mc := 0) (ms := 0) (As := [.int (gx g (nI i + 1).toNatClampNeg), .int (gx g (nI i + 2).toNatClampNeg)]) (r := [.int v]) dL_law_1132 mo12_fits mv12_fits lkRL_133 rfl hZM (q := (RX12, TX12, 34)) rfl rfl rfl (Nat.le_of_ble_eq_true rfl) (Nat.le_of_ble_eq_true rfl) hbud hbus (pRt_mono ?_)
  refine k12_fits 394 hW hZM hm ?_
  intro _
  show Ok g (400, RL, cL_law, 4, false, rc, rs, z0, s0) Qx 1135 [(0, .ref 0), (1, .ref aX), (2, .ref aM), (3, .int (nI i))] [.int v, .int v] (Z, I1, L, O)
  refine ok_icmp_eq (t := 1720) dL_law_1135 (by decide) (fun _ => ?_) (fun q => absurd rfl q)
  exact hnext _ _ _ hR2
set_option maxHeartbeats 4000000 in
set_option maxRecDepth 20000 in
theorem lcase28 {g : pG} {Qx : Option Value → pW → Prop} {Z : pZ} {n aX aM : Nat} {R : (Nat → Nat → Int32) → (Nat → Nat → Int64) → (Nat → Nat → Option Nat) → Prop} {rc rs z0 s0 i : Nat} {I : (Nat → Nat → Int32)} {L : (Nat → Nat → Int64)} {O : (Nat → Nat → Option Nat)} (hWT : ∀ I L O, R I L O → WT Z O) (hStr : StrOK g) (hZX : Z[aX]? = some (11, 11)) (hZM : Z[aM]? = some (12, 34)) (hbud : Z.length + 0 ≤ z0 + rc) (hbus : pSl Z + 0 ≤ s0 + rs) (hst28 : St28 n aX aM R) (hin1 : vp_in (nI i + 1) (gL g)) (hin2 : vp_in (nI i + 2) (gL g)) (hin3 : vp_in (nI i + 3) (gL g)) (hin4 : vp_in (nI i + 4) (gL g)) (hin5 : vp_in (nI i + 5) (gL g)) (hnext : ∀ I L O, R I L O → Ok g (400, RL, cL_law, 4, false, rc, rs, z0, s0) Qx 1720 [(0, .ref 0), (1, .ref aX), (2, .ref aM), (3, .int (nI i))] [] (Z, I, L, O)) (hR : R I L O) : Ok g (400, RL, cL_law, 4, false, rc, rs, z0, s0) Qx 1140 [(0, .ref 0), (1, .ref aX), (2, .ref aM), (3, .int (nI i))] [] (Z, I, L, O) := by
  have hW := hWT I L O hR
  refine ok_aload_n dL_law_1140 1 rfl ?_
  refine ok_aload_n dL_law_1141 0 rfl ?_
  refine ok_iload_n dL_law_1142 3 rfl ?_
  refine ok_iconst (v := 1) dL_law_1143 (by decide) ?_
  refine ok_iadd dL_law_1144 ?_
  refine ok_sld dL_law_1145 hin1 ?_
  obtain ⟨v, I1, hx, hm, hR2⟩ := hst28 I L O (gx g (nI i + 1).toNatClampNeg)  hR
  refine ok_callV (d := (393 + 6)) (mt := m11_nearest) (mc := 0) (ms := 0) (As := [.int (gx g (nI i + 1).toNatClampNeg)]) (r := []) dL_law_1146 mo11_nearest mv11_nearest lkRL_134 rfl hZX (q := (RX11, TX11, 11)) rfl rfl rfl (Nat.le_of_ble_eq_true rfl) (Nat.le_of_ble_eq_true rfl) hbud hbus (pRt_mono ?_)
  refine k11_nearest 393 hW hZX hx ?_
  intro _
  show Ok g (400, RL, cL_law, 4, false, rc, rs, z0, s0) Qx 1149 [(0, .ref 0), (1, .ref aX), (2, .ref aM), (3, .int (nI i))] [.int v] (Z, I1, L, O)
  refine ok_aload_n dL_law_1149 2 rfl ?_
  refine ok_aload_n dL_law_1150 0 rfl ?_
  refine ok_iload_n dL_law_1151 3 rfl ?_
  refine ok_iconst (v := 1) dL_law_1152 (by decide) ?_
  refine ok_iadd dL_law_1153 ?_
  refine ok_sld dL_law_1154 hin1 ?_
  refine ok_callV (d := (394 + 5)) (mt := m12_nearest) (mc := 0) (ms := 0) (As := [.int (gx g (nI i + 1).toNatClampNeg)]) (r := [.int v]) dL_law_1155 mo12_nearest mv12_nearest lkRL_137 rfl hZM (q := (RX12, TX12, 34)) rfl rfl rfl (Nat.le_of_ble_eq_true rfl) (Nat.le_of_ble_eq_true rfl) hbud hbus (pRt_mono ?_)
  refine k12_nearest 394 hW hZM hm ?_
  intro _
  show Ok g (400, RL, cL_law, 4, false, rc, rs, z0, s0) Qx 1158 [(0, .ref 0), (1, .ref aX), (2, .ref aM), (3, .int (nI i))] [.int v, .int v] (Z, I1, L, O)
  refine ok_icmp_eq (t := 1720) dL_law_1158 (by decide) (fun _ => ?_) (fun q => absurd rfl q)
  exact hnext _ _ _ hR2
set_option maxHeartbeats 4000000 in
set_option maxRecDepth 20000 in
theorem lcase29 {g : pG} {Qx : Option Value → pW → Prop} {Z : pZ} {n aX aM : Nat} {R : (Nat → Nat → Int32) → (Nat → Nat → Int64) → (Nat → Nat → Option Nat) → Prop} {rc rs z0 s0 i : Nat} {I : (Nat → Nat → Int32)} {L : (Nat → Nat → Int64)} {O : (Nat → Nat → Option Nat)} (hWT : ∀ I L O, R I L O → WT Z O) (hStr : StrOK g) (hZX : Z[aX]? = some (11, 11)) (hZM : Z[aM]? = some (12, 34)) (hbud : Z.length + 0 ≤ z0 + rc) (hbus : pSl Z + 0 ≤ s0 + rs) (hst29 : St29 n aX aM R) (hin1 : vp_in (nI i + 1) (gL g)) (hin2 : vp_in (nI i + 2) (gL g)) (hin3 : vp_in (nI i + 3) (gL g)) (hin4 : vp_in (nI i + 4) (gL g)) (hin5 : vp_in (nI i + 5) (gL g)) (hnext : ∀ I L O, R I L O → Ok g (400, RL, cL_law, 4, false, rc, rs, z0, s0) Qx 1720 [(0, .ref 0), (1, .ref aX), (2, .ref aM), (3, .int (nI i))] [] (Z, I, L, O)) (hR : R I L O) : Ok g (400, RL, cL_law, 4, false, rc, rs, z0, s0) Qx 1163 [(0, .ref 0), (1, .ref aX), (2, .ref aM), (3, .int (nI i))] [] (Z, I, L, O) := by
  have hW := hWT I L O hR
  refine ok_aload_n dL_law_1163 1 rfl ?_
  refine ok_aload_n dL_law_1164 0 rfl ?_
  refine ok_iload_n dL_law_1165 3 rfl ?_
  refine ok_iconst (v := 1) dL_law_1166 (by decide) ?_
  refine ok_iadd dL_law_1167 ?_
  refine ok_sld dL_law_1168 hin1 ?_
  refine ok_aload_n dL_law_1169 0 rfl ?_
  refine ok_iload_n dL_law_1170 3 rfl ?_
  refine ok_iconst (v := 2) dL_law_1171 (by decide) ?_
  refine ok_iadd dL_law_1172 ?_
  refine ok_sld dL_law_1173 hin2 ?_
  refine ok_if_eq (t := 1181) dL_law_1174 (by decide) (fun hp2 => ?_) (fun hp2 => ?_)
  · refine ok_iconst (v := 0) dL_law_1181 (by decide) ?_
    obtain ⟨v, I1, hx, hm, hR2⟩ := hst29 I L O (gx g (nI i + 1).toNatClampNeg) 0 (Or.inl rfl) hR
    refine ok_callV (d := (393 + 6)) (mt := m11_motif) (mc := 0) (ms := 0) (As := [.int (gx g (nI i + 1).toNatClampNeg), .int 0]) (r := []) dL_law_1182 mo11_motif mv11_motif lkRL_138 rfl hZX (q := (RX11, TX11, 11)) rfl rfl rfl (Nat.le_of_ble_eq_true rfl) (Nat.le_of_ble_eq_true rfl) hbud hbus (pRt_mono ?_)
    refine k11_motif 393 hW hZX hx ?_
    intro _
    show Ok g (400, RL, cL_law, 4, false, rc, rs, z0, s0) Qx 1185 [(0, .ref 0), (1, .ref aX), (2, .ref aM), (3, .int (nI i))] [.int v] (Z, I1, L, O)
    refine ok_aload_n dL_law_1185 2 rfl ?_
    refine ok_aload_n dL_law_1186 0 rfl ?_
    refine ok_iload_n dL_law_1187 3 rfl ?_
    refine ok_iconst (v := 1) dL_law_1188 (by decide) ?_
    refine ok_iadd dL_law_1189 ?_
    refine ok_sld dL_law_1190 hin1 ?_
    refine ok_aload_n dL_law_1191 0 rfl ?_
    refine ok_iload_n dL_law_1192 3 rfl ?_
    refine ok_iconst (v := 2) dL_law_1193 (by decide) ?_
    refine ok_iadd dL_law_1194 ?_
    refine ok_sld dL_law_1195 hin2 ?_
    refine ok_if_eq (t := 1203) dL_law_1196 (by decide) (fun _ => ?_) (fun q => absurd hp2 q)
    refine ok_iconst (v := 0) dL_law_1203 (by decide) ?_
    refine ok_callV (d := (393 + 6)) (mt := m12_motif) (mc := 0) (ms := 0) (As := [.int (gx g (nI i + 1).toNatClampNeg), .int 0]) (r := [.int v]) dL_law_1204 mo12_motif mv12_motif lkRL_142 rfl hZM (q := (RX12, TX12, 34)) rfl rfl rfl (Nat.le_of_ble_eq_true rfl) (Nat.le_of_ble_eq_true rfl) hbud hbus (pRt_mono ?_)
    refine k12_motif 393 hW hZM hm ?_
    intro _
    show Ok g (400, RL, cL_law, 4, false, rc, rs, z0, s0) Qx 1207 [(0, .ref 0), (1, .ref aX), (2, .ref aM), (3, .int (nI i))] [.int v, .int v] (Z, I1, L, O)
    refine ok_icmp_eq (t := 1720) dL_law_1207 (by decide) (fun _ => ?_) (fun q => absurd rfl q)
    exact hnext _ _ _ hR2
  · refine ok_iconst (v := 1) dL_law_1177 (by decide) ?_
    refine ok_goto (t := 1182) dL_law_1178 (by decide) ?_
    obtain ⟨v, I1, hx, hm, hR2⟩ := hst29 I L O (gx g (nI i + 1).toNatClampNeg) 1 (Or.inr rfl) hR
    refine ok_callV (d := (393 + 6)) (mt := m11_motif) (mc := 0) (ms := 0) (As := [.int (gx g (nI i + 1).toNatClampNeg), .int 1]) (r := []) dL_law_1182 mo11_motif mv11_motif lkRL_138 rfl hZX (q := (RX11, TX11, 11)) rfl rfl rfl (Nat.le_of_ble_eq_true rfl) (Nat.le_of_ble_eq_true rfl) hbud hbus (pRt_mono ?_)
    refine k11_motif 393 hW hZX hx ?_
    intro _
    show Ok g (400, RL, cL_law, 4, false, rc, rs, z0, s0) Qx 1185 [(0, .ref 0), (1, .ref aX), (2, .ref aM), (3, .int (nI i))] [.int v] (Z, I1, L, O)
    refine ok_aload_n dL_law_1185 2 rfl ?_
    refine ok_aload_n dL_law_1186 0 rfl ?_
    refine ok_iload_n dL_law_1187 3 rfl ?_
    refine ok_iconst (v := 1) dL_law_1188 (by decide) ?_
    refine ok_iadd dL_law_1189 ?_
    refine ok_sld dL_law_1190 hin1 ?_
    refine ok_aload_n dL_law_1191 0 rfl ?_
    refine ok_iload_n dL_law_1192 3 rfl ?_
    refine ok_iconst (v := 2) dL_law_1193 (by decide) ?_
    refine ok_iadd dL_law_1194 ?_
    refine ok_sld dL_law_1195 hin2 ?_
    refine ok_if_eq (t := 1203) dL_law_1196 (by decide) (fun q => absurd q hp2) (fun _ => ?_)
    refine ok_iconst (v := 1) dL_law_1199 (by decide) ?_
    refine ok_goto (t := 1204) dL_law_1200 (by decide) ?_
    refine ok_callV (d := (393 + 6)) (mt := m12_motif) (mc := 0) (ms := 0) (As := [.int (gx g (nI i + 1).toNatClampNeg), .int 1]) (r := [.int v]) dL_law_1204 mo12_motif mv12_motif lkRL_142 rfl hZM (q := (RX12, TX12, 34)) rfl rfl rfl (Nat.le_of_ble_eq_true rfl) (Nat.le_of_ble_eq_true rfl) hbud hbus (pRt_mono ?_)
    refine k12_motif 393 hW hZM hm ?_
    intro _
    show Ok g (400, RL, cL_law, 4, false, rc, rs, z0, s0) Qx 1207 [(0, .ref 0), (1, .ref aX), (2, .ref aM), (3, .int (nI i))] [.int v, .int v] (Z, I1, L, O)
    refine ok_icmp_eq (t := 1720) dL_law_1207 (by decide) (fun _ => ?_) (fun q => absurd rfl q)
    exact hnext _ _ _ hR2
set_option maxHeartbeats 4000000 in
set_option maxRecDepth 20000 in
theorem lcase30 {g : pG} {Qx : Option Value → pW → Prop} {Z : pZ} {n aX aM : Nat} {R : (Nat → Nat → Int32) → (Nat → Nat → Int64) → (Nat → Nat → Option Nat) → Prop} {rc rs z0 s0 i : Nat} {I : (Nat → Nat → Int32)} {L : (Nat → Nat → Int64)} {O : (Nat → Nat → Option Nat)} (hWT : ∀ I L O, R I L O → WT Z O) (hStr : StrOK g) (hZX : Z[aX]? = some (11, 11)) (hZM : Z[aM]? = some (12, 34)) (hbud : Z.length + 0 ≤ z0 + rc) (hbus : pSl Z + 0 ≤ s0 + rs) (hst30 : St30 n aX aM R) (hin1 : vp_in (nI i + 1) (gL g)) (hin2 : vp_in (nI i + 2) (gL g)) (hin3 : vp_in (nI i + 3) (gL g)) (hin4 : vp_in (nI i + 4) (gL g)) (hin5 : vp_in (nI i + 5) (gL g)) (hnext : ∀ I L O, R I L O → Ok g (400, RL, cL_law, 4, false, rc, rs, z0, s0) Qx 1720 [(0, .ref 0), (1, .ref aX), (2, .ref aM), (3, .int (nI i))] [] (Z, I, L, O)) (hR : R I L O) : Ok g (400, RL, cL_law, 4, false, rc, rs, z0, s0) Qx 1212 [(0, .ref 0), (1, .ref aX), (2, .ref aM), (3, .int (nI i))] [] (Z, I, L, O) := by
  have hW := hWT I L O hR
  refine ok_aload_n dL_law_1212 1 rfl ?_
  refine ok_aload_n dL_law_1213 0 rfl ?_
  refine ok_iload_n dL_law_1214 3 rfl ?_
  refine ok_iconst (v := 1) dL_law_1215 (by decide) ?_
  refine ok_iadd dL_law_1216 ?_
  refine ok_sld dL_law_1217 hin1 ?_
  refine ok_aload_n dL_law_1218 0 rfl ?_
  refine ok_iload_n dL_law_1219 3 rfl ?_
  refine ok_iconst (v := 2) dL_law_1220 (by decide) ?_
  refine ok_iadd dL_law_1221 ?_
  refine ok_sld dL_law_1222 hin2 ?_
  refine ok_if_eq (t := 1230) dL_law_1223 (by decide) (fun hp2 => ?_) (fun hp2 => ?_)
  · refine ok_iconst (v := 0) dL_law_1230 (by decide) ?_
    obtain ⟨v, I1, hx, hm, hR2⟩ := hst30 I L O (gx g (nI i + 1).toNatClampNeg) 0 (Or.inl rfl) hR
    refine ok_callV (d := (393 + 6)) (mt := m11_mirror) (mc := 0) (ms := 0) (As := [.int (gx g (nI i + 1).toNatClampNeg), .int 0]) (r := []) dL_law_1231 mo11_mirror mv11_mirror lkRL_143 rfl hZX (q := (RX11, TX11, 11)) rfl rfl rfl (Nat.le_of_ble_eq_true rfl) (Nat.le_of_ble_eq_true rfl) hbud hbus (pRt_mono ?_)
    refine k11_mirror 393 hW hZX hx ?_
    intro _
    show Ok g (400, RL, cL_law, 4, false, rc, rs, z0, s0) Qx 1234 [(0, .ref 0), (1, .ref aX), (2, .ref aM), (3, .int (nI i))] [.int v] (Z, I1, L, O)
    refine ok_aload_n dL_law_1234 2 rfl ?_
    refine ok_aload_n dL_law_1235 0 rfl ?_
    refine ok_iload_n dL_law_1236 3 rfl ?_
    refine ok_iconst (v := 1) dL_law_1237 (by decide) ?_
    refine ok_iadd dL_law_1238 ?_
    refine ok_sld dL_law_1239 hin1 ?_
    refine ok_aload_n dL_law_1240 0 rfl ?_
    refine ok_iload_n dL_law_1241 3 rfl ?_
    refine ok_iconst (v := 2) dL_law_1242 (by decide) ?_
    refine ok_iadd dL_law_1243 ?_
    refine ok_sld dL_law_1244 hin2 ?_
    refine ok_if_eq (t := 1252) dL_law_1245 (by decide) (fun _ => ?_) (fun q => absurd hp2 q)
    refine ok_iconst (v := 0) dL_law_1252 (by decide) ?_
    refine ok_callV (d := (394 + 5)) (mt := m12_mirror) (mc := 0) (ms := 0) (As := [.int (gx g (nI i + 1).toNatClampNeg), .int 0]) (r := [.int v]) dL_law_1253 mo12_mirror mv12_mirror lkRL_146 rfl hZM (q := (RX12, TX12, 34)) rfl rfl rfl (Nat.le_of_ble_eq_true rfl) (Nat.le_of_ble_eq_true rfl) hbud hbus (pRt_mono ?_)
    refine k12_mirror 394 hW hZM hm ?_
    intro _
    show Ok g (400, RL, cL_law, 4, false, rc, rs, z0, s0) Qx 1256 [(0, .ref 0), (1, .ref aX), (2, .ref aM), (3, .int (nI i))] [.int v, .int v] (Z, I1, L, O)
    refine ok_icmp_eq (t := 1720) dL_law_1256 (by decide) (fun _ => ?_) (fun q => absurd rfl q)
    exact hnext _ _ _ hR2
  · refine ok_iconst (v := 1) dL_law_1226 (by decide) ?_
    refine ok_goto (t := 1231) dL_law_1227 (by decide) ?_
    obtain ⟨v, I1, hx, hm, hR2⟩ := hst30 I L O (gx g (nI i + 1).toNatClampNeg) 1 (Or.inr rfl) hR
    refine ok_callV (d := (393 + 6)) (mt := m11_mirror) (mc := 0) (ms := 0) (As := [.int (gx g (nI i + 1).toNatClampNeg), .int 1]) (r := []) dL_law_1231 mo11_mirror mv11_mirror lkRL_143 rfl hZX (q := (RX11, TX11, 11)) rfl rfl rfl (Nat.le_of_ble_eq_true rfl) (Nat.le_of_ble_eq_true rfl) hbud hbus (pRt_mono ?_)
    refine k11_mirror 393 hW hZX hx ?_
    intro _
    show Ok g (400, RL, cL_law, 4, false, rc, rs, z0, s0) Qx 1234 [(0, .ref 0), (1, .ref aX), (2, .ref aM), (3, .int (nI i))] [.int v] (Z, I1, L, O)
    refine ok_aload_n dL_law_1234 2 rfl ?_
    refine ok_aload_n dL_law_1235 0 rfl ?_
    refine ok_iload_n dL_law_1236 3 rfl ?_
    refine ok_iconst (v := 1) dL_law_1237 (by decide) ?_
    refine ok_iadd dL_law_1238 ?_
    refine ok_sld dL_law_1239 hin1 ?_
    refine ok_aload_n dL_law_1240 0 rfl ?_
    refine ok_iload_n dL_law_1241 3 rfl ?_
    refine ok_iconst (v := 2) dL_law_1242 (by decide) ?_
    refine ok_iadd dL_law_1243 ?_
    refine ok_sld dL_law_1244 hin2 ?_
    refine ok_if_eq (t := 1252) dL_law_1245 (by decide) (fun q => absurd q hp2) (fun _ => ?_)
    refine ok_iconst (v := 1) dL_law_1248 (by decide) ?_
    refine ok_goto (t := 1253) dL_law_1249 (by decide) ?_
    refine ok_callV (d := (394 + 5)) (mt := m12_mirror) (mc := 0) (ms := 0) (As := [.int (gx g (nI i + 1).toNatClampNeg), .int 1]) (r := [.int v]) dL_law_1253 mo12_mirror mv12_mirror lkRL_146 rfl hZM (q := (RX12, TX12, 34)) rfl rfl rfl (Nat.le_of_ble_eq_true rfl) (Nat.le_of_ble_eq_true rfl) hbud hbus (pRt_mono ?_)
    refine k12_mirror 394 hW hZM hm ?_
    intro _
    show Ok g (400, RL, cL_law, 4, false, rc, rs, z0, s0) Qx 1256 [(0, .ref 0), (1, .ref aX), (2, .ref aM), (3, .int (nI i))] [.int v, .int v] (Z, I1, L, O)
    refine ok_icmp_eq (t := 1720) dL_law_1256 (by decide) (fun _ => ?_) (fun q => absurd rfl q)
    exact hnext _ _ _ hR2
set_option maxHeartbeats 4000000 in
set_option maxRecDepth 20000 in
theorem lcase31 {g : pG} {Qx : Option Value → pW → Prop} {Z : pZ} {n aX aM : Nat} {R : (Nat → Nat → Int32) → (Nat → Nat → Int64) → (Nat → Nat → Option Nat) → Prop} {rc rs z0 s0 i : Nat} {I : (Nat → Nat → Int32)} {L : (Nat → Nat → Int64)} {O : (Nat → Nat → Option Nat)} (hWT : ∀ I L O, R I L O → WT Z O) (hStr : StrOK g) (hZX : Z[aX]? = some (11, 11)) (hZM : Z[aM]? = some (12, 34)) (hbud : Z.length + 0 ≤ z0 + rc) (hbus : pSl Z + 0 ≤ s0 + rs) (hst31 : St31 n aX aM R) (hin1 : vp_in (nI i + 1) (gL g)) (hin2 : vp_in (nI i + 2) (gL g)) (hin3 : vp_in (nI i + 3) (gL g)) (hin4 : vp_in (nI i + 4) (gL g)) (hin5 : vp_in (nI i + 5) (gL g)) (hnext : ∀ I L O, R I L O → Ok g (400, RL, cL_law, 4, false, rc, rs, z0, s0) Qx 1720 [(0, .ref 0), (1, .ref aX), (2, .ref aM), (3, .int (nI i))] [] (Z, I, L, O)) (hR : R I L O) : Ok g (400, RL, cL_law, 4, false, rc, rs, z0, s0) Qx 1261 [(0, .ref 0), (1, .ref aX), (2, .ref aM), (3, .int (nI i))] [] (Z, I, L, O) := by
  have hW := hWT I L O hR
  refine ok_aload_n dL_law_1261 1 rfl ?_
  refine ok_aload_n dL_law_1262 0 rfl ?_
  refine ok_iload_n dL_law_1263 3 rfl ?_
  refine ok_iconst (v := 1) dL_law_1264 (by decide) ?_
  refine ok_iadd dL_law_1265 ?_
  refine ok_sld dL_law_1266 hin1 ?_
  refine ok_aload_n dL_law_1267 0 rfl ?_
  refine ok_iload_n dL_law_1268 3 rfl ?_
  refine ok_iconst (v := 2) dL_law_1269 (by decide) ?_
  refine ok_iadd dL_law_1270 ?_
  refine ok_sld dL_law_1271 hin2 ?_
  refine ok_aload_n dL_law_1272 0 rfl ?_
  refine ok_iload_n dL_law_1273 3 rfl ?_
  refine ok_iconst (v := 3) dL_law_1274 (by decide) ?_
  refine ok_iadd dL_law_1275 ?_
  refine ok_sld dL_law_1276 hin3 ?_
  obtain ⟨v, I1, hx, hm, hR2⟩ := hst31 I L O (gx g (nI i + 1).toNatClampNeg) (gx g (nI i + 2).toNatClampNeg) (gx g (nI i + 3).toNatClampNeg)  hR
  refine ok_callV (d := (393 + 6)) (mt := m11_clash) (mc := 0) (ms := 0) (As := [.int (gx g (nI i + 1).toNatClampNeg), .int (gx g (nI i + 2).toNatClampNeg), .int (gx g (nI i + 3).toNatClampNeg)]) (r := []) dL_law_1277 mo11_clash mv11_clash lkRL_147 rfl hZX (q := (RX11, TX11, 11)) rfl rfl rfl (Nat.le_of_ble_eq_true rfl) (Nat.le_of_ble_eq_true rfl) hbud hbus (pRt_mono ?_)
  refine k11_clash 393 hW hZX hx ?_
  intro _
  show Ok g (400, RL, cL_law, 4, false, rc, rs, z0, s0) Qx 1280 [(0, .ref 0), (1, .ref aX), (2, .ref aM), (3, .int (nI i))] [.int v] (Z, I1, L, O)
  refine ok_aload_n dL_law_1280 2 rfl ?_
  refine ok_aload_n dL_law_1281 0 rfl ?_
  refine ok_iload_n dL_law_1282 3 rfl ?_
  refine ok_iconst (v := 1) dL_law_1283 (by decide) ?_
  refine ok_iadd dL_law_1284 ?_
  refine ok_sld dL_law_1285 hin1 ?_
  refine ok_aload_n dL_law_1286 0 rfl ?_
  refine ok_iload_n dL_law_1287 3 rfl ?_
  refine ok_iconst (v := 2) dL_law_1288 (by decide) ?_
  refine ok_iadd dL_law_1289 ?_
  refine ok_sld dL_law_1290 hin2 ?_
  refine ok_aload_n dL_law_1291 0 rfl ?_
  refine ok_iload_n dL_law_1292 3 rfl ?_
  refine ok_iconst (v := 3) dL_law_1293 (by decide) ?_
  refine ok_iadd dL_law_1294 ?_
  refine ok_sld dL_law_1295 hin3 ?_
  refine ok_callV (d := (392 + 7)) (mt := m12_clash) (mc := 0) (ms := 0) (As := [.int (gx g (nI i + 1).toNatClampNeg), .int (gx g (nI i + 2).toNatClampNeg), .int (gx g (nI i + 3).toNatClampNeg)]) (r := [.int v]) dL_law_1296 mo12_clash mv12_clash lkRL_150 rfl hZM (q := (RX12, TX12, 34)) rfl rfl rfl (Nat.le_of_ble_eq_true rfl) (Nat.le_of_ble_eq_true rfl) hbud hbus (pRt_mono ?_)
  refine k12_clash 392 hW hZM hm ?_
  intro _
  show Ok g (400, RL, cL_law, 4, false, rc, rs, z0, s0) Qx 1299 [(0, .ref 0), (1, .ref aX), (2, .ref aM), (3, .int (nI i))] [.int v, .int v] (Z, I1, L, O)
  refine ok_icmp_eq (t := 1720) dL_law_1299 (by decide) (fun _ => ?_) (fun q => absurd rfl q)
  exact hnext _ _ _ hR2
set_option maxHeartbeats 4000000 in
set_option maxRecDepth 20000 in
theorem lcase32 {g : pG} {Qx : Option Value → pW → Prop} {Z : pZ} {n aX aM : Nat} {R : (Nat → Nat → Int32) → (Nat → Nat → Int64) → (Nat → Nat → Option Nat) → Prop} {rc rs z0 s0 i : Nat} {I : (Nat → Nat → Int32)} {L : (Nat → Nat → Int64)} {O : (Nat → Nat → Option Nat)} (hWT : ∀ I L O, R I L O → WT Z O) (hStr : StrOK g) (hZX : Z[aX]? = some (11, 11)) (hZM : Z[aM]? = some (12, 34)) (hbud : Z.length + 0 ≤ z0 + rc) (hbus : pSl Z + 0 ≤ s0 + rs) (hst32 : St32 n aX aM R) (hin1 : vp_in (nI i + 1) (gL g)) (hin2 : vp_in (nI i + 2) (gL g)) (hin3 : vp_in (nI i + 3) (gL g)) (hin4 : vp_in (nI i + 4) (gL g)) (hin5 : vp_in (nI i + 5) (gL g)) (hnext : ∀ I L O, R I L O → Ok g (400, RL, cL_law, 4, false, rc, rs, z0, s0) Qx 1720 [(0, .ref 0), (1, .ref aX), (2, .ref aM), (3, .int (nI i))] [] (Z, I, L, O)) (hR : R I L O) : Ok g (400, RL, cL_law, 4, false, rc, rs, z0, s0) Qx 1304 [(0, .ref 0), (1, .ref aX), (2, .ref aM), (3, .int (nI i))] [] (Z, I, L, O) := by
  have hW := hWT I L O hR
  refine ok_aload_n dL_law_1304 1 rfl ?_
  refine ok_aload_n dL_law_1305 0 rfl ?_
  refine ok_iload_n dL_law_1306 3 rfl ?_
  refine ok_iconst (v := 1) dL_law_1307 (by decide) ?_
  refine ok_iadd dL_law_1308 ?_
  refine ok_sld dL_law_1309 hin1 ?_
  refine ok_aload_n dL_law_1310 0 rfl ?_
  refine ok_iload_n dL_law_1311 3 rfl ?_
  refine ok_iconst (v := 2) dL_law_1312 (by decide) ?_
  refine ok_iadd dL_law_1313 ?_
  refine ok_sld dL_law_1314 hin2 ?_
  obtain ⟨v, I1, hx, hm, hR2⟩ := hst32 I L O (gx g (nI i + 1).toNatClampNeg) (gx g (nI i + 2).toNatClampNeg)  hR
  refine ok_callV (d := (393 + 6)) (mt := m11_together) (mc := 0) (ms := 0) (As := [.int (gx g (nI i + 1).toNatClampNeg), .int (gx g (nI i + 2).toNatClampNeg)]) (r := []) dL_law_1315 mo11_together mv11_together lkRL_151 rfl hZX (q := (RX11, TX11, 11)) rfl rfl rfl (Nat.le_of_ble_eq_true rfl) (Nat.le_of_ble_eq_true rfl) hbud hbus (pRt_mono ?_)
  refine k11_together 393 hW hZX hx ?_
  intro _
  show Ok g (400, RL, cL_law, 4, false, rc, rs, z0, s0) Qx 1318 [(0, .ref 0), (1, .ref aX), (2, .ref aM), (3, .int (nI i))] [.int v] (Z, I1, L, O)
  refine ok_aload_n dL_law_1318 2 rfl ?_
  refine ok_aload_n dL_law_1319 0 rfl ?_
  refine ok_iload_n dL_law_1320 3 rfl ?_
  refine ok_iconst (v := 1) dL_law_1321 (by decide) ?_
  refine ok_iadd dL_law_1322 ?_
  refine ok_sld dL_law_1323 hin1 ?_
  refine ok_aload_n dL_law_1324 0 rfl ?_
  refine ok_iload_n dL_law_1325 3 rfl ?_
  refine ok_iconst (v := 2) dL_law_1326 (by decide) ?_
  refine ok_iadd dL_law_1327 ?_
  refine ok_sld dL_law_1328 hin2 ?_
  refine ok_callV (d := (392 + 7)) (mt := m12_together) (mc := 0) (ms := 0) (As := [.int (gx g (nI i + 1).toNatClampNeg), .int (gx g (nI i + 2).toNatClampNeg)]) (r := [.int v]) dL_law_1329 mo12_together mv12_together lkRL_154 rfl hZM (q := (RX12, TX12, 34)) rfl rfl rfl (Nat.le_of_ble_eq_true rfl) (Nat.le_of_ble_eq_true rfl) hbud hbus (pRt_mono ?_)
  refine k12_together 392 hW hZM hm ?_
  intro _
  show Ok g (400, RL, cL_law, 4, false, rc, rs, z0, s0) Qx 1332 [(0, .ref 0), (1, .ref aX), (2, .ref aM), (3, .int (nI i))] [.int v, .int v] (Z, I1, L, O)
  refine ok_icmp_eq (t := 1720) dL_law_1332 (by decide) (fun _ => ?_) (fun q => absurd rfl q)
  exact hnext _ _ _ hR2
set_option maxHeartbeats 4000000 in
set_option maxRecDepth 20000 in
theorem lcase33 {g : pG} {Qx : Option Value → pW → Prop} {Z : pZ} {n aX aM : Nat} {R : (Nat → Nat → Int32) → (Nat → Nat → Int64) → (Nat → Nat → Option Nat) → Prop} {rc rs z0 s0 i : Nat} {I : (Nat → Nat → Int32)} {L : (Nat → Nat → Int64)} {O : (Nat → Nat → Option Nat)} (hWT : ∀ I L O, R I L O → WT Z O) (hStr : StrOK g) (hZX : Z[aX]? = some (11, 11)) (hZM : Z[aM]? = some (12, 34)) (hbud : Z.length + 0 ≤ z0 + rc) (hbus : pSl Z + 0 ≤ s0 + rs) (hst33 : St33 n aX aM R) (hin1 : vp_in (nI i + 1) (gL g)) (hin2 : vp_in (nI i + 2) (gL g)) (hin3 : vp_in (nI i + 3) (gL g)) (hin4 : vp_in (nI i + 4) (gL g)) (hin5 : vp_in (nI i + 5) (gL g)) (hnext : ∀ I L O, R I L O → Ok g (400, RL, cL_law, 4, false, rc, rs, z0, s0) Qx 1720 [(0, .ref 0), (1, .ref aX), (2, .ref aM), (3, .int (nI i))] [] (Z, I, L, O)) (hR : R I L O) : Ok g (400, RL, cL_law, 4, false, rc, rs, z0, s0) Qx 1337 [(0, .ref 0), (1, .ref aX), (2, .ref aM), (3, .int (nI i))] [] (Z, I, L, O) := by
  have hW := hWT I L O hR
  refine ok_aload_n dL_law_1337 1 rfl ?_
  refine ok_aload_n dL_law_1338 0 rfl ?_
  refine ok_iload_n dL_law_1339 3 rfl ?_
  refine ok_iconst (v := 1) dL_law_1340 (by decide) ?_
  refine ok_iadd dL_law_1341 ?_
  refine ok_sld dL_law_1342 hin1 ?_
  refine ok_aload_n dL_law_1343 0 rfl ?_
  refine ok_iload_n dL_law_1344 3 rfl ?_
  refine ok_iconst (v := 2) dL_law_1345 (by decide) ?_
  refine ok_iadd dL_law_1346 ?_
  refine ok_sld dL_law_1347 hin2 ?_
  obtain ⟨v, I1, I2, hx, hm, hR2⟩ := hst33 I L O (gx g (nI i + 1).toNatClampNeg) (gx g (nI i + 2).toNatClampNeg)  hR
  refine ok_callV (d := (381 + 18)) (mt := m11_stair) (mc := 0) (ms := 0) (As := [.int (gx g (nI i + 1).toNatClampNeg), .int (gx g (nI i + 2).toNatClampNeg)]) (r := []) dL_law_1348 mo11_stair mv11_stair lkRL_155 rfl hZX (q := (RX11, TX11, 11)) rfl rfl rfl (Nat.le_of_ble_eq_true rfl) (Nat.le_of_ble_eq_true rfl) hbud hbus (pRt_mono ?_)
  refine k11_stair 381 hW hZX hx ?_
  intro _
  show Ok g (400, RL, cL_law, 4, false, rc, rs, z0, s0) Qx 1351 [(0, .ref 0), (1, .ref aX), (2, .ref aM), (3, .int (nI i))] [.int v] (Z, I1, L, O)
  refine ok_aload_n dL_law_1351 2 rfl ?_
  refine ok_aload_n dL_law_1352 0 rfl ?_
  refine ok_iload_n dL_law_1353 3 rfl ?_
  refine ok_iconst (v := 1) dL_law_1354 (by decide) ?_
  refine ok_iadd dL_law_1355 ?_
  refine ok_sld dL_law_1356 hin1 ?_
  refine ok_aload_n dL_law_1357 0 rfl ?_
  refine ok_iload_n dL_law_1358 3 rfl ?_
  refine ok_iconst (v := 2) dL_law_1359 (by decide) ?_
  refine ok_iadd dL_law_1360 ?_
  refine ok_sld dL_law_1361 hin2 ?_
  refine ok_callV (d := (394 + 5)) (mt := m12_stair) (mc := 0) (ms := 0) (As := [.int (gx g (nI i + 1).toNatClampNeg), .int (gx g (nI i + 2).toNatClampNeg)]) (r := [.int v]) dL_law_1362 mo12_stair mv12_stair lkRL_158 rfl hZM (q := (RX12, TX12, 34)) rfl rfl rfl (Nat.le_of_ble_eq_true rfl) (Nat.le_of_ble_eq_true rfl) hbud hbus (pRt_mono ?_)
  refine k12_stair 394 hW hZM hm ?_
  intro _
  show Ok g (400, RL, cL_law, 4, false, rc, rs, z0, s0) Qx 1365 [(0, .ref 0), (1, .ref aX), (2, .ref aM), (3, .int (nI i))] [.int v, .int v] (Z, I2, L, O)
  refine ok_icmp_eq (t := 1720) dL_law_1365 (by decide) (fun _ => ?_) (fun q => absurd rfl q)
  exact hnext _ _ _ hR2
set_option maxHeartbeats 4000000 in
set_option maxRecDepth 20000 in
theorem lcase34 {g : pG} {Qx : Option Value → pW → Prop} {Z : pZ} {n aX aM : Nat} {R : (Nat → Nat → Int32) → (Nat → Nat → Int64) → (Nat → Nat → Option Nat) → Prop} {rc rs z0 s0 i : Nat} {I : (Nat → Nat → Int32)} {L : (Nat → Nat → Int64)} {O : (Nat → Nat → Option Nat)} (hWT : ∀ I L O, R I L O → WT Z O) (hStr : StrOK g) (hZX : Z[aX]? = some (11, 11)) (hZM : Z[aM]? = some (12, 34)) (hbud : Z.length + 0 ≤ z0 + rc) (hbus : pSl Z + 0 ≤ s0 + rs) (hst34 : St34 n aX aM R) (hin1 : vp_in (nI i + 1) (gL g)) (hin2 : vp_in (nI i + 2) (gL g)) (hin3 : vp_in (nI i + 3) (gL g)) (hin4 : vp_in (nI i + 4) (gL g)) (hin5 : vp_in (nI i + 5) (gL g)) (hnext : ∀ I L O, R I L O → Ok g (400, RL, cL_law, 4, false, rc, rs, z0, s0) Qx 1720 [(0, .ref 0), (1, .ref aX), (2, .ref aM), (3, .int (nI i))] [] (Z, I, L, O)) (hR : R I L O) : Ok g (400, RL, cL_law, 4, false, rc, rs, z0, s0) Qx 1370 [(0, .ref 0), (1, .ref aX), (2, .ref aM), (3, .int (nI i))] [] (Z, I, L, O) := by
  have hW := hWT I L O hR
  refine ok_aload_n dL_law_1370 1 rfl ?_
  refine ok_aload_n dL_law_1371 0 rfl ?_
  refine ok_iload_n dL_law_1372 3 rfl ?_
  refine ok_iconst (v := 1) dL_law_1373 (by decide) ?_
  refine ok_iadd dL_law_1374 ?_
  refine ok_sld dL_law_1375 hin1 ?_
  obtain ⟨v, I1, I2, hx, hm, hR2⟩ := hst34 I L O (gx g (nI i + 1).toNatClampNeg)  hR
  refine ok_callV (d := (393 + 6)) (mt := m11_fills) (mc := 0) (ms := 0) (As := [.int (gx g (nI i + 1).toNatClampNeg)]) (r := []) dL_law_1376 mo11_fills mv11_fills lkRL_159 rfl hZX (q := (RX11, TX11, 11)) rfl rfl rfl (Nat.le_of_ble_eq_true rfl) (Nat.le_of_ble_eq_true rfl) hbud hbus (pRt_mono ?_)
  refine k11_fills 393 hW hZX hx ?_
  intro _
  show Ok g (400, RL, cL_law, 4, false, rc, rs, z0, s0) Qx 1379 [(0, .ref 0), (1, .ref aX), (2, .ref aM), (3, .int (nI i))] [.long v] (Z, I1, L, O)
  refine ok_aload_n dL_law_1379 2 rfl ?_
  refine ok_aload_n dL_law_1380 0 rfl ?_
  refine ok_iload_n dL_law_1381 3 rfl ?_
  refine ok_iconst (v := 1) dL_law_1382 (by decide) ?_
  refine ok_iadd dL_law_1383 ?_
  refine ok_sld dL_law_1384 hin1 ?_
  refine ok_callV (d := (394 + 5)) (mt := m12_fills) (mc := 0) (ms := 0) (As := [.int (gx g (nI i + 1).toNatClampNeg)]) (r := [.long v]) dL_law_1385 mo12_fills mv12_fills lkRL_163 rfl hZM (q := (RX12, TX12, 34)) rfl rfl rfl (Nat.le_of_ble_eq_true rfl) (Nat.le_of_ble_eq_true rfl) hbud hbus (pRt_mono ?_)
  refine k12_fills 394 hW hZM hm ?_
  intro _
  show Ok g (400, RL, cL_law, 4, false, rc, rs, z0, s0) Qx 1388 [(0, .ref 0), (1, .ref aX), (2, .ref aM), (3, .int (nI i))] [.long v, .long v] (Z, I2, L, O)
  refine ok_lcmp dL_law_1388 ?_
  refine ok_if_eq (t := 1720) dL_law_1389 (by decide) (fun _ => ?_) (fun q => absurd (lg_same v) q)
  exact hnext _ _ _ hR2
set_option maxHeartbeats 4000000 in
set_option maxRecDepth 20000 in
theorem lcase35 {g : pG} {Qx : Option Value → pW → Prop} {Z : pZ} {n aX aM : Nat} {R : (Nat → Nat → Int32) → (Nat → Nat → Int64) → (Nat → Nat → Option Nat) → Prop} {rc rs z0 s0 i : Nat} {I : (Nat → Nat → Int32)} {L : (Nat → Nat → Int64)} {O : (Nat → Nat → Option Nat)} (hWT : ∀ I L O, R I L O → WT Z O) (hStr : StrOK g) (hZX : Z[aX]? = some (11, 11)) (hZM : Z[aM]? = some (12, 34)) (hbud : Z.length + 0 ≤ z0 + rc) (hbus : pSl Z + 0 ≤ s0 + rs) (hst35 : St35 n aX aM R) (hin1 : vp_in (nI i + 1) (gL g)) (hin2 : vp_in (nI i + 2) (gL g)) (hin3 : vp_in (nI i + 3) (gL g)) (hin4 : vp_in (nI i + 4) (gL g)) (hin5 : vp_in (nI i + 5) (gL g)) (hnext : ∀ I L O, R I L O → Ok g (400, RL, cL_law, 4, false, rc, rs, z0, s0) Qx 1720 [(0, .ref 0), (1, .ref aX), (2, .ref aM), (3, .int (nI i))] [] (Z, I, L, O)) (hR : R I L O) : Ok g (400, RL, cL_law, 4, false, rc, rs, z0, s0) Qx 1394 [(0, .ref 0), (1, .ref aX), (2, .ref aM), (3, .int (nI i))] [] (Z, I, L, O) := by
  have hW := hWT I L O hR
  refine ok_aload_n dL_law_1394 1 rfl ?_
  refine ok_aload_n dL_law_1395 0 rfl ?_
  refine ok_iload_n dL_law_1396 3 rfl ?_
  refine ok_iconst (v := 1) dL_law_1397 (by decide) ?_
  refine ok_iadd dL_law_1398 ?_
  refine ok_sld dL_law_1399 hin1 ?_
  refine ok_aload_n dL_law_1400 0 rfl ?_
  refine ok_iload_n dL_law_1401 3 rfl ?_
  refine ok_iconst (v := 2) dL_law_1402 (by decide) ?_
  refine ok_iadd dL_law_1403 ?_
  refine ok_sld dL_law_1404 hin2 ?_
  refine ok_aload_n dL_law_1405 0 rfl ?_
  refine ok_iload_n dL_law_1406 3 rfl ?_
  refine ok_iconst (v := 3) dL_law_1407 (by decide) ?_
  refine ok_iadd dL_law_1408 ?_
  refine ok_sld dL_law_1409 hin3 ?_
  obtain ⟨v, I1, I2, L2, hx, hm, hR2⟩ := hst35 I L O (gx g (nI i + 1).toNatClampNeg) (gx g (nI i + 2).toNatClampNeg) (gx g (nI i + 3).toNatClampNeg)  hR
  refine ok_callV (d := (380 + 19)) (mt := m11_teaches) (mc := 0) (ms := 0) (As := [.int (gx g (nI i + 1).toNatClampNeg), .int (gx g (nI i + 2).toNatClampNeg), .int (gx g (nI i + 3).toNatClampNeg)]) (r := []) dL_law_1410 mo11_teaches mv11_teaches lkRL_164 rfl hZX (q := (RX11, TX11, 11)) rfl rfl rfl (Nat.le_of_ble_eq_true rfl) (Nat.le_of_ble_eq_true rfl) hbud hbus (pRt_mono ?_)
  refine k11_teaches 380 hW hZX hx ?_
  intro _
  show Ok g (400, RL, cL_law, 4, false, rc, rs, z0, s0) Qx 1413 [(0, .ref 0), (1, .ref aX), (2, .ref aM), (3, .int (nI i))] [.int v] (Z, I1, L, O)
  refine ok_aload_n dL_law_1413 2 rfl ?_
  refine ok_aload_n dL_law_1414 0 rfl ?_
  refine ok_iload_n dL_law_1415 3 rfl ?_
  refine ok_iconst (v := 1) dL_law_1416 (by decide) ?_
  refine ok_iadd dL_law_1417 ?_
  refine ok_sld dL_law_1418 hin1 ?_
  refine ok_aload_n dL_law_1419 0 rfl ?_
  refine ok_iload_n dL_law_1420 3 rfl ?_
  refine ok_iconst (v := 2) dL_law_1421 (by decide) ?_
  refine ok_iadd dL_law_1422 ?_
  refine ok_sld dL_law_1423 hin2 ?_
  refine ok_aload_n dL_law_1424 0 rfl ?_
  refine ok_iload_n dL_law_1425 3 rfl ?_
  refine ok_iconst (v := 3) dL_law_1426 (by decide) ?_
  refine ok_iadd dL_law_1427 ?_
  refine ok_sld dL_law_1428 hin3 ?_
  refine ok_callV (d := (387 + 12)) (mt := m12_teaches) (mc := 0) (ms := 0) (As := [.int (gx g (nI i + 1).toNatClampNeg), .int (gx g (nI i + 2).toNatClampNeg), .int (gx g (nI i + 3).toNatClampNeg)]) (r := [.int v]) dL_law_1429 mo12_teaches mv12_teaches lkRL_167 rfl hZM (q := (RX12, TX12, 34)) rfl rfl rfl (Nat.le_of_ble_eq_true rfl) (Nat.le_of_ble_eq_true rfl) hbud hbus (pRt_mono ?_)
  refine k12_teaches 387 hW hZM hm ?_
  intro _
  show Ok g (400, RL, cL_law, 4, false, rc, rs, z0, s0) Qx 1432 [(0, .ref 0), (1, .ref aX), (2, .ref aM), (3, .int (nI i))] [.int v, .int v] (Z, I2, L2, O)
  refine ok_icmp_eq (t := 1720) dL_law_1432 (by decide) (fun _ => ?_) (fun q => absurd rfl q)
  exact hnext _ _ _ hR2
set_option maxHeartbeats 4000000 in
set_option maxRecDepth 20000 in
theorem lcase36 {g : pG} {Qx : Option Value → pW → Prop} {Z : pZ} {n aX aM : Nat} {R : (Nat → Nat → Int32) → (Nat → Nat → Int64) → (Nat → Nat → Option Nat) → Prop} {rc rs z0 s0 i : Nat} {I : (Nat → Nat → Int32)} {L : (Nat → Nat → Int64)} {O : (Nat → Nat → Option Nat)} (hWT : ∀ I L O, R I L O → WT Z O) (hStr : StrOK g) (hZX : Z[aX]? = some (11, 11)) (hZM : Z[aM]? = some (12, 34)) (hbud : Z.length + 0 ≤ z0 + rc) (hbus : pSl Z + 0 ≤ s0 + rs) (hst36 : St36 n aX aM R) (hin1 : vp_in (nI i + 1) (gL g)) (hin2 : vp_in (nI i + 2) (gL g)) (hin3 : vp_in (nI i + 3) (gL g)) (hin4 : vp_in (nI i + 4) (gL g)) (hin5 : vp_in (nI i + 5) (gL g)) (hnext : ∀ I L O, R I L O → Ok g (400, RL, cL_law, 4, false, rc, rs, z0, s0) Qx 1720 [(0, .ref 0), (1, .ref aX), (2, .ref aM), (3, .int (nI i))] [] (Z, I, L, O)) (hR : R I L O) : Ok g (400, RL, cL_law, 4, false, rc, rs, z0, s0) Qx 1437 [(0, .ref 0), (1, .ref aX), (2, .ref aM), (3, .int (nI i))] [] (Z, I, L, O) := by
  have hW := hWT I L O hR
  refine ok_aload_n dL_law_1437 1 rfl ?_
  refine ok_aload_n dL_law_1438 0 rfl ?_
  refine ok_iload_n dL_law_1439 3 rfl ?_
  refine ok_iconst (v := 1) dL_law_1440 (by decide) ?_
  refine ok_iadd dL_law_1441 ?_
  refine ok_sld dL_law_1442 hin1 ?_
  refine ok_aload_n dL_law_1443 0 rfl ?_
  refine ok_iload_n dL_law_1444 3 rfl ?_
  refine ok_iconst (v := 2) dL_law_1445 (by decide) ?_
  refine ok_iadd dL_law_1446 ?_
  refine ok_sld dL_law_1447 hin2 ?_
  refine ok_aload_n dL_law_1448 0 rfl ?_
  refine ok_iload_n dL_law_1449 3 rfl ?_
  refine ok_iconst (v := 3) dL_law_1450 (by decide) ?_
  refine ok_iadd dL_law_1451 ?_
  refine ok_sld dL_law_1452 hin3 ?_
  refine ok_aload_n dL_law_1453 0 rfl ?_
  refine ok_iload_n dL_law_1454 3 rfl ?_
  refine ok_iconst (v := 4) dL_law_1455 (by decide) ?_
  refine ok_iadd dL_law_1456 ?_
  refine ok_sld dL_law_1457 hin4 ?_
  refine ok_aload_n dL_law_1458 0 rfl ?_
  refine ok_iload_n dL_law_1459 3 rfl ?_
  refine ok_iconst (v := 5) dL_law_1460 (by decide) ?_
  refine ok_iadd dL_law_1461 ?_
  refine ok_sld dL_law_1462 hin5 ?_
  refine ok_if_eq (t := 1470) dL_law_1463 (by decide) (fun hp5 => ?_) (fun hp5 => ?_)
  · refine ok_iconst (v := 0) dL_law_1470 (by decide) ?_
    obtain ⟨v, I1, I2, L1, L2, hx, hm, hR2⟩ := hst36 I L O (gx g (nI i + 1).toNatClampNeg) (gx g (nI i + 2).toNatClampNeg) (gx g (nI i + 3).toNatClampNeg) (gx g (nI i + 4).toNatClampNeg) 0 (Or.inl rfl) hR
    refine ok_callV (d := (392 + 7)) (mt := m11_likely) (mc := 0) (ms := 0) (As := [.int (gx g (nI i + 1).toNatClampNeg), .int (gx g (nI i + 2).toNatClampNeg), .int (gx g (nI i + 3).toNatClampNeg), .int (gx g (nI i + 4).toNatClampNeg), .int 0]) (r := []) dL_law_1471 mo11_likely mv11_likely lkRL_168 rfl hZX (q := (RX11, TX11, 11)) rfl rfl rfl (Nat.le_of_ble_eq_true rfl) (Nat.le_of_ble_eq_true rfl) hbud hbus (pRt_mono ?_)
    refine k11_likely 392 hW hZX hx ?_
    intro _
    show Ok g (400, RL, cL_law, 4, false, rc, rs, z0, s0) Qx 1474 [(0, .ref 0), (1, .ref aX), (2, .ref aM), (3, .int (nI i))] [.long v] (Z, I1, L1, O)
    refine ok_aload_n dL_law_1474 2 rfl ?_
    refine ok_aload_n dL_law_1475 0 rfl ?_
    refine ok_iload_n dL_law_1476 3 rfl ?_
    refine ok_iconst (v := 1) dL_law_1477 (by decide) ?_
    refine ok_iadd dL_law_1478 ?_
    refine ok_sld dL_law_1479 hin1 ?_
    refine ok_aload_n dL_law_1480 0 rfl ?_
    refine ok_iload_n dL_law_1481 3 rfl ?_
    refine ok_iconst (v := 2) dL_law_1482 (by decide) ?_
    refine ok_iadd dL_law_1483 ?_
    refine ok_sld dL_law_1484 hin2 ?_
    refine ok_aload_n dL_law_1485 0 rfl ?_
    refine ok_iload_n dL_law_1486 3 rfl ?_
    refine ok_iconst (v := 3) dL_law_1487 (by decide) ?_
    refine ok_iadd dL_law_1488 ?_
    refine ok_sld dL_law_1489 hin3 ?_
    refine ok_aload_n dL_law_1490 0 rfl ?_
    refine ok_iload_n dL_law_1491 3 rfl ?_
    refine ok_iconst (v := 4) dL_law_1492 (by decide) ?_
    refine ok_iadd dL_law_1493 ?_
    refine ok_sld dL_law_1494 hin4 ?_
    refine ok_aload_n dL_law_1495 0 rfl ?_
    refine ok_iload_n dL_law_1496 3 rfl ?_
    refine ok_iconst (v := 5) dL_law_1497 (by decide) ?_
    refine ok_iadd dL_law_1498 ?_
    refine ok_sld dL_law_1499 hin5 ?_
    refine ok_if_eq (t := 1507) dL_law_1500 (by decide) (fun _ => ?_) (fun q => absurd hp5 q)
    refine ok_iconst (v := 0) dL_law_1507 (by decide) ?_
    refine ok_callV (d := (390 + 9)) (mt := m12_likely) (mc := 0) (ms := 0) (As := [.int (gx g (nI i + 1).toNatClampNeg), .int (gx g (nI i + 2).toNatClampNeg), .int (gx g (nI i + 3).toNatClampNeg), .int (gx g (nI i + 4).toNatClampNeg), .int 0]) (r := [.long v]) dL_law_1508 mo12_likely mv12_likely lkRL_172 rfl hZM (q := (RX12, TX12, 34)) rfl rfl rfl (Nat.le_of_ble_eq_true rfl) (Nat.le_of_ble_eq_true rfl) hbud hbus (pRt_mono ?_)
    refine k12_likely 390 hW hZM hm ?_
    intro _
    show Ok g (400, RL, cL_law, 4, false, rc, rs, z0, s0) Qx 1511 [(0, .ref 0), (1, .ref aX), (2, .ref aM), (3, .int (nI i))] [.long v, .long v] (Z, I2, L2, O)
    refine ok_lcmp dL_law_1511 ?_
    refine ok_if_eq (t := 1720) dL_law_1512 (by decide) (fun _ => ?_) (fun q => absurd (lg_same v) q)
    exact hnext _ _ _ hR2
  · refine ok_iconst (v := 1) dL_law_1466 (by decide) ?_
    refine ok_goto (t := 1471) dL_law_1467 (by decide) ?_
    obtain ⟨v, I1, I2, L1, L2, hx, hm, hR2⟩ := hst36 I L O (gx g (nI i + 1).toNatClampNeg) (gx g (nI i + 2).toNatClampNeg) (gx g (nI i + 3).toNatClampNeg) (gx g (nI i + 4).toNatClampNeg) 1 (Or.inr rfl) hR
    refine ok_callV (d := (392 + 7)) (mt := m11_likely) (mc := 0) (ms := 0) (As := [.int (gx g (nI i + 1).toNatClampNeg), .int (gx g (nI i + 2).toNatClampNeg), .int (gx g (nI i + 3).toNatClampNeg), .int (gx g (nI i + 4).toNatClampNeg), .int 1]) (r := []) dL_law_1471 mo11_likely mv11_likely lkRL_168 rfl hZX (q := (RX11, TX11, 11)) rfl rfl rfl (Nat.le_of_ble_eq_true rfl) (Nat.le_of_ble_eq_true rfl) hbud hbus (pRt_mono ?_)
    refine k11_likely 392 hW hZX hx ?_
    intro _
    show Ok g (400, RL, cL_law, 4, false, rc, rs, z0, s0) Qx 1474 [(0, .ref 0), (1, .ref aX), (2, .ref aM), (3, .int (nI i))] [.long v] (Z, I1, L1, O)
    refine ok_aload_n dL_law_1474 2 rfl ?_
    refine ok_aload_n dL_law_1475 0 rfl ?_
    refine ok_iload_n dL_law_1476 3 rfl ?_
    refine ok_iconst (v := 1) dL_law_1477 (by decide) ?_
    refine ok_iadd dL_law_1478 ?_
    refine ok_sld dL_law_1479 hin1 ?_
    refine ok_aload_n dL_law_1480 0 rfl ?_
    refine ok_iload_n dL_law_1481 3 rfl ?_
    refine ok_iconst (v := 2) dL_law_1482 (by decide) ?_
    refine ok_iadd dL_law_1483 ?_
    refine ok_sld dL_law_1484 hin2 ?_
    refine ok_aload_n dL_law_1485 0 rfl ?_
    refine ok_iload_n dL_law_1486 3 rfl ?_
    refine ok_iconst (v := 3) dL_law_1487 (by decide) ?_
    refine ok_iadd dL_law_1488 ?_
    refine ok_sld dL_law_1489 hin3 ?_
    refine ok_aload_n dL_law_1490 0 rfl ?_
    refine ok_iload_n dL_law_1491 3 rfl ?_
    refine ok_iconst (v := 4) dL_law_1492 (by decide) ?_
    refine ok_iadd dL_law_1493 ?_
    refine ok_sld dL_law_1494 hin4 ?_
    refine ok_aload_n dL_law_1495 0 rfl ?_
    refine ok_iload_n dL_law_1496 3 rfl ?_
    refine ok_iconst (v := 5) dL_law_1497 (by decide) ?_
    refine ok_iadd dL_law_1498 ?_
    refine ok_sld dL_law_1499 hin5 ?_
    refine ok_if_eq (t := 1507) dL_law_1500 (by decide) (fun q => absurd q hp5) (fun _ => ?_)
    refine ok_iconst (v := 1) dL_law_1503 (by decide) ?_
    refine ok_goto (t := 1508) dL_law_1504 (by decide) ?_
    refine ok_callV (d := (390 + 9)) (mt := m12_likely) (mc := 0) (ms := 0) (As := [.int (gx g (nI i + 1).toNatClampNeg), .int (gx g (nI i + 2).toNatClampNeg), .int (gx g (nI i + 3).toNatClampNeg), .int (gx g (nI i + 4).toNatClampNeg), .int 1]) (r := [.long v]) dL_law_1508 mo12_likely mv12_likely lkRL_172 rfl hZM (q := (RX12, TX12, 34)) rfl rfl rfl (Nat.le_of_ble_eq_true rfl) (Nat.le_of_ble_eq_true rfl) hbud hbus (pRt_mono ?_)
    refine k12_likely 390 hW hZM hm ?_
    intro _
    show Ok g (400, RL, cL_law, 4, false, rc, rs, z0, s0) Qx 1511 [(0, .ref 0), (1, .ref aX), (2, .ref aM), (3, .int (nI i))] [.long v, .long v] (Z, I2, L2, O)
    refine ok_lcmp dL_law_1511 ?_
    refine ok_if_eq (t := 1720) dL_law_1512 (by decide) (fun _ => ?_) (fun q => absurd (lg_same v) q)
    exact hnext _ _ _ hR2
set_option maxHeartbeats 4000000 in
set_option maxRecDepth 20000 in
theorem lcase37 {g : pG} {Qx : Option Value → pW → Prop} {Z : pZ} {n aX aM : Nat} {R : (Nat → Nat → Int32) → (Nat → Nat → Int64) → (Nat → Nat → Option Nat) → Prop} {rc rs z0 s0 i : Nat} {I : (Nat → Nat → Int32)} {L : (Nat → Nat → Int64)} {O : (Nat → Nat → Option Nat)} (hWT : ∀ I L O, R I L O → WT Z O) (hStr : StrOK g) (hZX : Z[aX]? = some (11, 11)) (hZM : Z[aM]? = some (12, 34)) (hbud : Z.length + 0 ≤ z0 + rc) (hbus : pSl Z + 0 ≤ s0 + rs) (hst37 : St37 n aX aM R) (hin1 : vp_in (nI i + 1) (gL g)) (hin2 : vp_in (nI i + 2) (gL g)) (hin3 : vp_in (nI i + 3) (gL g)) (hin4 : vp_in (nI i + 4) (gL g)) (hin5 : vp_in (nI i + 5) (gL g)) (hnext : ∀ I L O, R I L O → Ok g (400, RL, cL_law, 4, false, rc, rs, z0, s0) Qx 1720 [(0, .ref 0), (1, .ref aX), (2, .ref aM), (3, .int (nI i))] [] (Z, I, L, O)) (hR : R I L O) : Ok g (400, RL, cL_law, 4, false, rc, rs, z0, s0) Qx 1517 [(0, .ref 0), (1, .ref aX), (2, .ref aM), (3, .int (nI i))] [] (Z, I, L, O) := by
  have hW := hWT I L O hR
  refine ok_aload_n dL_law_1517 1 rfl ?_
  refine ok_aload_n dL_law_1518 0 rfl ?_
  refine ok_iload_n dL_law_1519 3 rfl ?_
  refine ok_iconst (v := 1) dL_law_1520 (by decide) ?_
  refine ok_iadd dL_law_1521 ?_
  refine ok_sld dL_law_1522 hin1 ?_
  obtain ⟨v, I1, hx, hm, hR2⟩ := hst37 I L O (gx g (nI i + 1).toNatClampNeg)  hR
  refine ok_callV (d := (393 + 6)) (mt := m11_parts) (mc := 0) (ms := 0) (As := [.int (gx g (nI i + 1).toNatClampNeg)]) (r := []) dL_law_1523 mo11_parts mv11_parts lkRL_173 rfl hZX (q := (RX11, TX11, 11)) rfl rfl rfl (Nat.le_of_ble_eq_true rfl) (Nat.le_of_ble_eq_true rfl) hbud hbus (pRt_mono ?_)
  refine k11_parts 393 hW hZX hx ?_
  intro _
  show Ok g (400, RL, cL_law, 4, false, rc, rs, z0, s0) Qx 1526 [(0, .ref 0), (1, .ref aX), (2, .ref aM), (3, .int (nI i))] [.int v] (Z, I1, L, O)
  refine ok_aload_n dL_law_1526 2 rfl ?_
  refine ok_aload_n dL_law_1527 0 rfl ?_
  refine ok_iload_n dL_law_1528 3 rfl ?_
  refine ok_iconst (v := 1) dL_law_1529 (by decide) ?_
  refine ok_iadd dL_law_1530 ?_
  refine ok_sld dL_law_1531 hin1 ?_
  refine ok_callV (d := (395 + 4)) (mt := m12_parts) (mc := 0) (ms := 0) (As := [.int (gx g (nI i + 1).toNatClampNeg)]) (r := [.int v]) dL_law_1532 mo12_parts mv12_parts lkRL_176 rfl hZM (q := (RX12, TX12, 34)) rfl rfl rfl (Nat.le_of_ble_eq_true rfl) (Nat.le_of_ble_eq_true rfl) hbud hbus (pRt_mono ?_)
  refine k12_parts 395 hW hZM hm ?_
  intro _
  show Ok g (400, RL, cL_law, 4, false, rc, rs, z0, s0) Qx 1535 [(0, .ref 0), (1, .ref aX), (2, .ref aM), (3, .int (nI i))] [.int v, .int v] (Z, I1, L, O)
  refine ok_icmp_eq (t := 1720) dL_law_1535 (by decide) (fun _ => ?_) (fun q => absurd rfl q)
  exact hnext _ _ _ hR2
set_option maxHeartbeats 4000000 in
set_option maxRecDepth 20000 in
theorem lcase38 {g : pG} {Qx : Option Value → pW → Prop} {Z : pZ} {n aX aM : Nat} {R : (Nat → Nat → Int32) → (Nat → Nat → Int64) → (Nat → Nat → Option Nat) → Prop} {rc rs z0 s0 i : Nat} {I : (Nat → Nat → Int32)} {L : (Nat → Nat → Int64)} {O : (Nat → Nat → Option Nat)} (hWT : ∀ I L O, R I L O → WT Z O) (hStr : StrOK g) (hZX : Z[aX]? = some (11, 11)) (hZM : Z[aM]? = some (12, 34)) (hbud : Z.length + 0 ≤ z0 + rc) (hbus : pSl Z + 0 ≤ s0 + rs) (hst38 : St38 n aX aM R) (hin1 : vp_in (nI i + 1) (gL g)) (hin2 : vp_in (nI i + 2) (gL g)) (hin3 : vp_in (nI i + 3) (gL g)) (hin4 : vp_in (nI i + 4) (gL g)) (hin5 : vp_in (nI i + 5) (gL g)) (hnext : ∀ I L O, R I L O → Ok g (400, RL, cL_law, 4, false, rc, rs, z0, s0) Qx 1720 [(0, .ref 0), (1, .ref aX), (2, .ref aM), (3, .int (nI i))] [] (Z, I, L, O)) (hR : R I L O) : Ok g (400, RL, cL_law, 4, false, rc, rs, z0, s0) Qx 1540 [(0, .ref 0), (1, .ref aX), (2, .ref aM), (3, .int (nI i))] [] (Z, I, L, O) := by
  have hW := hWT I L O hR
  refine ok_aload_n dL_law_1540 1 rfl ?_
  obtain ⟨v, I1, I2, hx, hm, hR2⟩ := hst38 I L O   hR
  refine ok_callV (d := (393 + 6)) (mt := m11_alike) (mc := 0) (ms := 0) (As := []) (r := []) dL_law_1541 mo11_alike mv11_alike lkRL_177 rfl hZX (q := (RX11, TX11, 11)) rfl rfl rfl (Nat.le_of_ble_eq_true rfl) (Nat.le_of_ble_eq_true rfl) hbud hbus (pRt_mono ?_)
  refine k11_alike 393 hW hZX hx ?_
  intro _
  show Ok g (400, RL, cL_law, 4, false, rc, rs, z0, s0) Qx 1544 [(0, .ref 0), (1, .ref aX), (2, .ref aM), (3, .int (nI i))] [.int v] (Z, I1, L, O)
  refine ok_aload_n dL_law_1544 2 rfl ?_
  refine ok_callV (d := (394 + 5)) (mt := m12_alike) (mc := 0) (ms := 0) (As := []) (r := [.int v]) dL_law_1545 mo12_alike mv12_alike lkRL_180 rfl hZM (q := (RX12, TX12, 34)) rfl rfl rfl (Nat.le_of_ble_eq_true rfl) (Nat.le_of_ble_eq_true rfl) hbud hbus (pRt_mono ?_)
  refine k12_alike 394 hW hZM hm ?_
  intro _
  show Ok g (400, RL, cL_law, 4, false, rc, rs, z0, s0) Qx 1548 [(0, .ref 0), (1, .ref aX), (2, .ref aM), (3, .int (nI i))] [.int v, .int v] (Z, I2, L, O)
  refine ok_icmp_eq (t := 1720) dL_law_1548 (by decide) (fun _ => ?_) (fun q => absurd rfl q)
  exact hnext _ _ _ hR2
set_option maxHeartbeats 4000000 in
set_option maxRecDepth 20000 in
theorem lcase39 {g : pG} {Qx : Option Value → pW → Prop} {Z : pZ} {n aX aM : Nat} {R : (Nat → Nat → Int32) → (Nat → Nat → Int64) → (Nat → Nat → Option Nat) → Prop} {rc rs z0 s0 i : Nat} {I : (Nat → Nat → Int32)} {L : (Nat → Nat → Int64)} {O : (Nat → Nat → Option Nat)} (hWT : ∀ I L O, R I L O → WT Z O) (hStr : StrOK g) (hZX : Z[aX]? = some (11, 11)) (hZM : Z[aM]? = some (12, 34)) (hbud : Z.length + 0 ≤ z0 + rc) (hbus : pSl Z + 0 ≤ s0 + rs) (hst39 : St39 n aX aM R) (hin1 : vp_in (nI i + 1) (gL g)) (hin2 : vp_in (nI i + 2) (gL g)) (hin3 : vp_in (nI i + 3) (gL g)) (hin4 : vp_in (nI i + 4) (gL g)) (hin5 : vp_in (nI i + 5) (gL g)) (hnext : ∀ I L O, R I L O → Ok g (400, RL, cL_law, 4, false, rc, rs, z0, s0) Qx 1720 [(0, .ref 0), (1, .ref aX), (2, .ref aM), (3, .int (nI i))] [] (Z, I, L, O)) (hR : R I L O) : Ok g (400, RL, cL_law, 4, false, rc, rs, z0, s0) Qx 1553 [(0, .ref 0), (1, .ref aX), (2, .ref aM), (3, .int (nI i))] [] (Z, I, L, O) := by
  have hW := hWT I L O hR
  refine ok_aload_n dL_law_1553 1 rfl ?_
  refine ok_aload_n dL_law_1554 0 rfl ?_
  refine ok_iload_n dL_law_1555 3 rfl ?_
  refine ok_iconst (v := 1) dL_law_1556 (by decide) ?_
  refine ok_iadd dL_law_1557 ?_
  refine ok_sld dL_law_1558 hin1 ?_
  refine ok_aload_n dL_law_1559 0 rfl ?_
  refine ok_iload_n dL_law_1560 3 rfl ?_
  refine ok_iconst (v := 2) dL_law_1561 (by decide) ?_
  refine ok_iadd dL_law_1562 ?_
  refine ok_sld dL_law_1563 hin2 ?_
  refine ok_aload_n dL_law_1564 0 rfl ?_
  refine ok_iload_n dL_law_1565 3 rfl ?_
  refine ok_iconst (v := 3) dL_law_1566 (by decide) ?_
  refine ok_iadd dL_law_1567 ?_
  refine ok_sld dL_law_1568 hin3 ?_
  obtain ⟨v, I1, I2, hx, hm, hR2⟩ := hst39 I L O (gx g (nI i + 1).toNatClampNeg) (gx g (nI i + 2).toNatClampNeg) (gx g (nI i + 3).toNatClampNeg)  hR
  refine ok_callV (d := (395 + 4)) (mt := m11_said) (mc := 0) (ms := 0) (As := [.int (gx g (nI i + 1).toNatClampNeg), .int (gx g (nI i + 2).toNatClampNeg), .int (gx g (nI i + 3).toNatClampNeg)]) (r := []) dL_law_1569 mo11_said mv11_said lkRL_181 rfl hZX (q := (RX11, TX11, 11)) rfl rfl rfl (Nat.le_of_ble_eq_true rfl) (Nat.le_of_ble_eq_true rfl) hbud hbus (pRt_mono ?_)
  refine k11_said 395 hW hZX hx ?_
  intro _
  show Ok g (400, RL, cL_law, 4, false, rc, rs, z0, s0) Qx 1572 [(0, .ref 0), (1, .ref aX), (2, .ref aM), (3, .int (nI i))] [.int v] (Z, I1, L, O)
  refine ok_aload_n dL_law_1572 2 rfl ?_
  refine ok_aload_n dL_law_1573 0 rfl ?_
  refine ok_iload_n dL_law_1574 3 rfl ?_
  refine ok_iconst (v := 1) dL_law_1575 (by decide) ?_
  refine ok_iadd dL_law_1576 ?_
  refine ok_sld dL_law_1577 hin1 ?_
  refine ok_aload_n dL_law_1578 0 rfl ?_
  refine ok_iload_n dL_law_1579 3 rfl ?_
  refine ok_iconst (v := 2) dL_law_1580 (by decide) ?_
  refine ok_iadd dL_law_1581 ?_
  refine ok_sld dL_law_1582 hin2 ?_
  refine ok_aload_n dL_law_1583 0 rfl ?_
  refine ok_iload_n dL_law_1584 3 rfl ?_
  refine ok_iconst (v := 3) dL_law_1585 (by decide) ?_
  refine ok_iadd dL_law_1586 ?_
  refine ok_sld dL_law_1587 hin3 ?_
  refine ok_callV (d := (395 + 4)) (mt := m12_said) (mc := 0) (ms := 0) (As := [.int (gx g (nI i + 1).toNatClampNeg), .int (gx g (nI i + 2).toNatClampNeg), .int (gx g (nI i + 3).toNatClampNeg)]) (r := [.int v]) dL_law_1588 mo12_said mv12_said lkRL_184 rfl hZM (q := (RX12, TX12, 34)) rfl rfl rfl (Nat.le_of_ble_eq_true rfl) (Nat.le_of_ble_eq_true rfl) hbud hbus (pRt_mono ?_)
  refine k12_said 395 hW hZM hm ?_
  intro _
  show Ok g (400, RL, cL_law, 4, false, rc, rs, z0, s0) Qx 1591 [(0, .ref 0), (1, .ref aX), (2, .ref aM), (3, .int (nI i))] [.int v, .int v] (Z, I2, L, O)
  refine ok_icmp_eq (t := 1720) dL_law_1591 (by decide) (fun _ => ?_) (fun q => absurd rfl q)
  exact hnext _ _ _ hR2
set_option maxHeartbeats 4000000 in
set_option maxRecDepth 20000 in
theorem lcase40 {g : pG} {Qx : Option Value → pW → Prop} {Z : pZ} {n aX aM : Nat} {R : (Nat → Nat → Int32) → (Nat → Nat → Int64) → (Nat → Nat → Option Nat) → Prop} {rc rs z0 s0 i : Nat} {I : (Nat → Nat → Int32)} {L : (Nat → Nat → Int64)} {O : (Nat → Nat → Option Nat)} (hWT : ∀ I L O, R I L O → WT Z O) (hStr : StrOK g) (hZX : Z[aX]? = some (11, 11)) (hZM : Z[aM]? = some (12, 34)) (hbud : Z.length + 0 ≤ z0 + rc) (hbus : pSl Z + 0 ≤ s0 + rs) (hst40 : St40 n aX aM R) (hin1 : vp_in (nI i + 1) (gL g)) (hin2 : vp_in (nI i + 2) (gL g)) (hin3 : vp_in (nI i + 3) (gL g)) (hin4 : vp_in (nI i + 4) (gL g)) (hin5 : vp_in (nI i + 5) (gL g)) (hnext : ∀ I L O, R I L O → Ok g (400, RL, cL_law, 4, false, rc, rs, z0, s0) Qx 1720 [(0, .ref 0), (1, .ref aX), (2, .ref aM), (3, .int (nI i))] [] (Z, I, L, O)) (hR : R I L O) : Ok g (400, RL, cL_law, 4, false, rc, rs, z0, s0) Qx 1596 [(0, .ref 0), (1, .ref aX), (2, .ref aM), (3, .int (nI i))] [] (Z, I, L, O) := by
  have hW := hWT I L O hR
  refine ok_aload_n dL_law_1596 1 rfl ?_
  obtain ⟨v, I1, I2, L2, hx, hm, hR2⟩ := hst40 I L O   hR
  refine ok_callV (d := (392 + 7)) (mt := m11_whose) (mc := 0) (ms := 0) (As := []) (r := []) dL_law_1597 mo11_whose mv11_whose lkRL_185 rfl hZX (q := (RX11, TX11, 11)) rfl rfl rfl (Nat.le_of_ble_eq_true rfl) (Nat.le_of_ble_eq_true rfl) hbud hbus (pRt_mono ?_)
  refine k11_whose 392 hW hZX hx ?_
  intro _
  show Ok g (400, RL, cL_law, 4, false, rc, rs, z0, s0) Qx 1600 [(0, .ref 0), (1, .ref aX), (2, .ref aM), (3, .int (nI i))] [.int v] (Z, I1, L, O)
  refine ok_aload_n dL_law_1600 2 rfl ?_
  refine ok_callV (d := (390 + 9)) (mt := m12_whose) (mc := 0) (ms := 0) (As := []) (r := [.int v]) dL_law_1601 mo12_whose mv12_whose lkRL_188 rfl hZM (q := (RX12, TX12, 34)) rfl rfl rfl (Nat.le_of_ble_eq_true rfl) (Nat.le_of_ble_eq_true rfl) hbud hbus (pRt_mono ?_)
  refine k12_whose 390 hW hZM hm ?_
  intro _
  show Ok g (400, RL, cL_law, 4, false, rc, rs, z0, s0) Qx 1604 [(0, .ref 0), (1, .ref aX), (2, .ref aM), (3, .int (nI i))] [.int v, .int v] (Z, I2, L2, O)
  refine ok_icmp_eq (t := 1720) dL_law_1604 (by decide) (fun _ => ?_) (fun q => absurd rfl q)
  exact hnext _ _ _ hR2
set_option maxHeartbeats 4000000 in
set_option maxRecDepth 20000 in
theorem lcase41 {g : pG} {Qx : Option Value → pW → Prop} {Z : pZ} {n aX aM : Nat} {R : (Nat → Nat → Int32) → (Nat → Nat → Int64) → (Nat → Nat → Option Nat) → Prop} {rc rs z0 s0 i : Nat} {I : (Nat → Nat → Int32)} {L : (Nat → Nat → Int64)} {O : (Nat → Nat → Option Nat)} (hWT : ∀ I L O, R I L O → WT Z O) (hStr : StrOK g) (hZX : Z[aX]? = some (11, 11)) (hZM : Z[aM]? = some (12, 34)) (hbud : Z.length + 0 ≤ z0 + rc) (hbus : pSl Z + 0 ≤ s0 + rs) (hst41 : St41 n aX aM R) (hin1 : vp_in (nI i + 1) (gL g)) (hin2 : vp_in (nI i + 2) (gL g)) (hin3 : vp_in (nI i + 3) (gL g)) (hin4 : vp_in (nI i + 4) (gL g)) (hin5 : vp_in (nI i + 5) (gL g)) (hnext : ∀ I L O, R I L O → Ok g (400, RL, cL_law, 4, false, rc, rs, z0, s0) Qx 1720 [(0, .ref 0), (1, .ref aX), (2, .ref aM), (3, .int (nI i))] [] (Z, I, L, O)) (hR : R I L O) : Ok g (400, RL, cL_law, 4, false, rc, rs, z0, s0) Qx 1609 [(0, .ref 0), (1, .ref aX), (2, .ref aM), (3, .int (nI i))] [] (Z, I, L, O) := by
  have hW := hWT I L O hR
  refine ok_aload_n dL_law_1609 1 rfl ?_
  obtain ⟨v, I1, I2, L2, hx, hm, hR2⟩ := hst41 I L O   hR
  refine ok_callV (d := (392 + 7)) (mt := m11_best) (mc := 0) (ms := 0) (As := []) (r := []) dL_law_1610 mo11_best mv11_best lkRL_189 rfl hZX (q := (RX11, TX11, 11)) rfl rfl rfl (Nat.le_of_ble_eq_true rfl) (Nat.le_of_ble_eq_true rfl) hbud hbus (pRt_mono ?_)
  refine k11_best 392 hW hZX hx ?_
  intro _
  show Ok g (400, RL, cL_law, 4, false, rc, rs, z0, s0) Qx 1613 [(0, .ref 0), (1, .ref aX), (2, .ref aM), (3, .int (nI i))] [.int v] (Z, I1, L, O)
  refine ok_aload_n dL_law_1613 2 rfl ?_
  refine ok_callV (d := (388 + 11)) (mt := m12_best) (mc := 0) (ms := 0) (As := []) (r := [.int v]) dL_law_1614 mo12_best mv12_best lkRL_192 rfl hZM (q := (RX12, TX12, 34)) rfl rfl rfl (Nat.le_of_ble_eq_true rfl) (Nat.le_of_ble_eq_true rfl) hbud hbus (pRt_mono ?_)
  refine k12_best 388 hW hZM hm ?_
  intro _
  show Ok g (400, RL, cL_law, 4, false, rc, rs, z0, s0) Qx 1617 [(0, .ref 0), (1, .ref aX), (2, .ref aM), (3, .int (nI i))] [.int v, .int v] (Z, I2, L2, O)
  refine ok_icmp_eq (t := 1720) dL_law_1617 (by decide) (fun _ => ?_) (fun q => absurd rfl q)
  exact hnext _ _ _ hR2
set_option maxHeartbeats 4000000 in
set_option maxRecDepth 20000 in
theorem lcase42 {g : pG} {Qx : Option Value → pW → Prop} {Z : pZ} {n aX aM : Nat} {R : (Nat → Nat → Int32) → (Nat → Nat → Int64) → (Nat → Nat → Option Nat) → Prop} {rc rs z0 s0 i : Nat} {I : (Nat → Nat → Int32)} {L : (Nat → Nat → Int64)} {O : (Nat → Nat → Option Nat)} (hWT : ∀ I L O, R I L O → WT Z O) (hStr : StrOK g) (hZX : Z[aX]? = some (11, 11)) (hZM : Z[aM]? = some (12, 34)) (hbud : Z.length + 0 ≤ z0 + rc) (hbus : pSl Z + 0 ≤ s0 + rs) (hst42 : St42 n aX aM R) (hin1 : vp_in (nI i + 1) (gL g)) (hin2 : vp_in (nI i + 2) (gL g)) (hin3 : vp_in (nI i + 3) (gL g)) (hin4 : vp_in (nI i + 4) (gL g)) (hin5 : vp_in (nI i + 5) (gL g)) (hnext : ∀ I L O, R I L O → Ok g (400, RL, cL_law, 4, false, rc, rs, z0, s0) Qx 1720 [(0, .ref 0), (1, .ref aX), (2, .ref aM), (3, .int (nI i))] [] (Z, I, L, O)) (hR : R I L O) : Ok g (400, RL, cL_law, 4, false, rc, rs, z0, s0) Qx 1622 [(0, .ref 0), (1, .ref aX), (2, .ref aM), (3, .int (nI i))] [] (Z, I, L, O) := by
  have hW := hWT I L O hR
  refine ok_aload_n dL_law_1622 1 rfl ?_
  obtain ⟨v, hx, hm, hR2⟩ := hst42 I L O   hR
  refine ok_callV (d := (394 + 5)) (mt := m11_loved) (mc := 0) (ms := 0) (As := []) (r := []) dL_law_1623 mo11_loved mv11_loved lkRL_193 rfl hZX (q := (RX11, TX11, 11)) rfl rfl rfl (Nat.le_of_ble_eq_true rfl) (Nat.le_of_ble_eq_true rfl) hbud hbus (pRt_mono ?_)
  refine k11_loved 394 hW hZX hx ?_
  intro _
  show Ok g (400, RL, cL_law, 4, false, rc, rs, z0, s0) Qx 1626 [(0, .ref 0), (1, .ref aX), (2, .ref aM), (3, .int (nI i))] [.int v] (Z, I, L, O)
  refine ok_aload_n dL_law_1626 2 rfl ?_
  refine ok_callV (d := (395 + 4)) (mt := m12_loved) (mc := 0) (ms := 0) (As := []) (r := [.int v]) dL_law_1627 mo12_loved mv12_loved lkRL_196 rfl hZM (q := (RX12, TX12, 34)) rfl rfl rfl (Nat.le_of_ble_eq_true rfl) (Nat.le_of_ble_eq_true rfl) hbud hbus (pRt_mono ?_)
  refine k12_loved 395 hW hZM hm ?_
  intro _
  show Ok g (400, RL, cL_law, 4, false, rc, rs, z0, s0) Qx 1630 [(0, .ref 0), (1, .ref aX), (2, .ref aM), (3, .int (nI i))] [.int v, .int v] (Z, I, L, O)
  refine ok_icmp_eq (t := 1720) dL_law_1630 (by decide) (fun _ => ?_) (fun q => absurd rfl q)
  exact hnext _ _ _ hR2
set_option maxHeartbeats 4000000 in
set_option maxRecDepth 20000 in
theorem lcase43 {g : pG} {Qx : Option Value → pW → Prop} {Z : pZ} {n aX aM : Nat} {R : (Nat → Nat → Int32) → (Nat → Nat → Int64) → (Nat → Nat → Option Nat) → Prop} {rc rs z0 s0 i : Nat} {I : (Nat → Nat → Int32)} {L : (Nat → Nat → Int64)} {O : (Nat → Nat → Option Nat)} (hWT : ∀ I L O, R I L O → WT Z O) (hStr : StrOK g) (hZX : Z[aX]? = some (11, 11)) (hZM : Z[aM]? = some (12, 34)) (hbud : Z.length + 0 ≤ z0 + rc) (hbus : pSl Z + 0 ≤ s0 + rs) (hst43 : St43 n aX aM R) (hin1 : vp_in (nI i + 1) (gL g)) (hin2 : vp_in (nI i + 2) (gL g)) (hin3 : vp_in (nI i + 3) (gL g)) (hin4 : vp_in (nI i + 4) (gL g)) (hin5 : vp_in (nI i + 5) (gL g)) (hnext : ∀ I L O, R I L O → Ok g (400, RL, cL_law, 4, false, rc, rs, z0, s0) Qx 1720 [(0, .ref 0), (1, .ref aX), (2, .ref aM), (3, .int (nI i))] [] (Z, I, L, O)) (hR : R I L O) : Ok g (400, RL, cL_law, 4, false, rc, rs, z0, s0) Qx 1635 [(0, .ref 0), (1, .ref aX), (2, .ref aM), (3, .int (nI i))] [] (Z, I, L, O) := by
  have hW := hWT I L O hR
  refine ok_aload_n dL_law_1635 1 rfl ?_
  obtain ⟨v, hx, hm, hR2⟩ := hst43 I L O   hR
  refine ok_callV (d := (394 + 5)) (mt := m11_dumb) (mc := 0) (ms := 0) (As := []) (r := []) dL_law_1636 mo11_dumb mv11_dumb lkRL_197 rfl hZX (q := (RX11, TX11, 11)) rfl rfl rfl (Nat.le_of_ble_eq_true rfl) (Nat.le_of_ble_eq_true rfl) hbud hbus (pRt_mono ?_)
  refine k11_dumb 394 hW hZX hx ?_
  intro _
  show Ok g (400, RL, cL_law, 4, false, rc, rs, z0, s0) Qx 1639 [(0, .ref 0), (1, .ref aX), (2, .ref aM), (3, .int (nI i))] [.int v] (Z, I, L, O)
  refine ok_aload_n dL_law_1639 2 rfl ?_
  refine ok_callV (d := (394 + 5)) (mt := m12_dumb) (mc := 0) (ms := 0) (As := []) (r := [.int v]) dL_law_1640 mo12_dumb mv12_dumb lkRL_200 rfl hZM (q := (RX12, TX12, 34)) rfl rfl rfl (Nat.le_of_ble_eq_true rfl) (Nat.le_of_ble_eq_true rfl) hbud hbus (pRt_mono ?_)
  refine k12_dumb 394 hW hZM hm ?_
  intro _
  show Ok g (400, RL, cL_law, 4, false, rc, rs, z0, s0) Qx 1643 [(0, .ref 0), (1, .ref aX), (2, .ref aM), (3, .int (nI i))] [.int v, .int v] (Z, I, L, O)
  refine ok_icmp_eq (t := 1720) dL_law_1643 (by decide) (fun _ => ?_) (fun q => absurd rfl q)
  exact hnext _ _ _ hR2
set_option maxHeartbeats 4000000 in
set_option maxRecDepth 20000 in
theorem lcase44 {g : pG} {Qx : Option Value → pW → Prop} {Z : pZ} {n aX aM : Nat} {R : (Nat → Nat → Int32) → (Nat → Nat → Int64) → (Nat → Nat → Option Nat) → Prop} {rc rs z0 s0 i : Nat} {I : (Nat → Nat → Int32)} {L : (Nat → Nat → Int64)} {O : (Nat → Nat → Option Nat)} (hWT : ∀ I L O, R I L O → WT Z O) (hStr : StrOK g) (hZX : Z[aX]? = some (11, 11)) (hZM : Z[aM]? = some (12, 34)) (hbud : Z.length + 0 ≤ z0 + rc) (hbus : pSl Z + 0 ≤ s0 + rs) (hst44 : St44 n aX aM R) (hin1 : vp_in (nI i + 1) (gL g)) (hin2 : vp_in (nI i + 2) (gL g)) (hin3 : vp_in (nI i + 3) (gL g)) (hin4 : vp_in (nI i + 4) (gL g)) (hin5 : vp_in (nI i + 5) (gL g)) (hnext : ∀ I L O, R I L O → Ok g (400, RL, cL_law, 4, false, rc, rs, z0, s0) Qx 1720 [(0, .ref 0), (1, .ref aX), (2, .ref aM), (3, .int (nI i))] [] (Z, I, L, O)) (hR : R I L O) : Ok g (400, RL, cL_law, 4, false, rc, rs, z0, s0) Qx 1648 [(0, .ref 0), (1, .ref aX), (2, .ref aM), (3, .int (nI i))] [] (Z, I, L, O) := by
  have hW := hWT I L O hR
  refine ok_aload_n dL_law_1648 1 rfl ?_
  refine ok_aload_n dL_law_1649 0 rfl ?_
  refine ok_iload_n dL_law_1650 3 rfl ?_
  refine ok_iconst (v := 1) dL_law_1651 (by decide) ?_
  refine ok_iadd dL_law_1652 ?_
  refine ok_sld dL_law_1653 hin1 ?_
  obtain ⟨v, hx, hm, hR2⟩ := hst44 I L O (gx g (nI i + 1).toNatClampNeg)  hR
  refine ok_callV (d := (395 + 4)) (mt := m11_ledger) (mc := 0) (ms := 0) (As := [.int (gx g (nI i + 1).toNatClampNeg)]) (r := []) dL_law_1654 mo11_ledger mv11_ledger lkRL_201 rfl hZX (q := (RX11, TX11, 11)) rfl rfl rfl (Nat.le_of_ble_eq_true rfl) (Nat.le_of_ble_eq_true rfl) hbud hbus (pRt_mono ?_)
  refine k11_ledger 395 hW hZX hx ?_
  intro _
  show Ok g (400, RL, cL_law, 4, false, rc, rs, z0, s0) Qx 1657 [(0, .ref 0), (1, .ref aX), (2, .ref aM), (3, .int (nI i))] [.int v] (Z, I, L, O)
  refine ok_aload_n dL_law_1657 2 rfl ?_
  refine ok_aload_n dL_law_1658 0 rfl ?_
  refine ok_iload_n dL_law_1659 3 rfl ?_
  refine ok_iconst (v := 1) dL_law_1660 (by decide) ?_
  refine ok_iadd dL_law_1661 ?_
  refine ok_sld dL_law_1662 hin1 ?_
  refine ok_callV (d := (395 + 4)) (mt := m12_ledger) (mc := 0) (ms := 0) (As := [.int (gx g (nI i + 1).toNatClampNeg)]) (r := [.int v]) dL_law_1663 mo12_ledger mv12_ledger lkRL_204 rfl hZM (q := (RX12, TX12, 34)) rfl rfl rfl (Nat.le_of_ble_eq_true rfl) (Nat.le_of_ble_eq_true rfl) hbud hbus (pRt_mono ?_)
  refine k12_ledger 395 hW hZM hm ?_
  intro _
  show Ok g (400, RL, cL_law, 4, false, rc, rs, z0, s0) Qx 1666 [(0, .ref 0), (1, .ref aX), (2, .ref aM), (3, .int (nI i))] [.int v, .int v] (Z, I, L, O)
  refine ok_icmp_eq (t := 1720) dL_law_1666 (by decide) (fun _ => ?_) (fun q => absurd rfl q)
  exact hnext _ _ _ hR2
set_option maxHeartbeats 4000000 in
set_option maxRecDepth 20000 in
theorem lcase45 {g : pG} {Qx : Option Value → pW → Prop} {Z : pZ} {n aX aM : Nat} {R : (Nat → Nat → Int32) → (Nat → Nat → Int64) → (Nat → Nat → Option Nat) → Prop} {rc rs z0 s0 i : Nat} {I : (Nat → Nat → Int32)} {L : (Nat → Nat → Int64)} {O : (Nat → Nat → Option Nat)} (hWT : ∀ I L O, R I L O → WT Z O) (hStr : StrOK g) (hZX : Z[aX]? = some (11, 11)) (hZM : Z[aM]? = some (12, 34)) (hbud : Z.length + 0 ≤ z0 + rc) (hbus : pSl Z + 0 ≤ s0 + rs) (hst45 : St45 n aX aM R) (hin1 : vp_in (nI i + 1) (gL g)) (hin2 : vp_in (nI i + 2) (gL g)) (hin3 : vp_in (nI i + 3) (gL g)) (hin4 : vp_in (nI i + 4) (gL g)) (hin5 : vp_in (nI i + 5) (gL g)) (hnext : ∀ I L O, R I L O → Ok g (400, RL, cL_law, 4, false, rc, rs, z0, s0) Qx 1720 [(0, .ref 0), (1, .ref aX), (2, .ref aM), (3, .int (nI i))] [] (Z, I, L, O)) (hR : R I L O) : Ok g (400, RL, cL_law, 4, false, rc, rs, z0, s0) Qx 1671 [(0, .ref 0), (1, .ref aX), (2, .ref aM), (3, .int (nI i))] [] (Z, I, L, O) := by
  have hW := hWT I L O hR
  refine ok_aload_n dL_law_1671 1 rfl ?_
  obtain ⟨v, I1, I2, hx, hm, hR2⟩ := hst45 I L O   hR
  refine ok_callV (d := (393 + 6)) (mt := m11_image) (mc := 0) (ms := 0) (As := []) (r := []) dL_law_1672 mo11_image mv11_image lkRL_205 rfl hZX (q := (RX11, TX11, 11)) rfl rfl rfl (Nat.le_of_ble_eq_true rfl) (Nat.le_of_ble_eq_true rfl) hbud hbus (pRt_mono ?_)
  refine k11_image 393 hW hZX hx ?_
  intro _
  show Ok g (400, RL, cL_law, 4, false, rc, rs, z0, s0) Qx 1675 [(0, .ref 0), (1, .ref aX), (2, .ref aM), (3, .int (nI i))] [.int v] (Z, I1, L, O)
  refine ok_aload_n dL_law_1675 2 rfl ?_
  refine ok_callV (d := (396 + 3)) (mt := m12_image) (mc := 0) (ms := 0) (As := []) (r := [.int v]) dL_law_1676 mo12_image mv12_image lkRL_208 rfl hZM (q := (RX12, TX12, 34)) rfl rfl rfl (Nat.le_of_ble_eq_true rfl) (Nat.le_of_ble_eq_true rfl) hbud hbus (pRt_mono ?_)
  refine k12_image 396 hW hZM hm ?_
  intro _
  show Ok g (400, RL, cL_law, 4, false, rc, rs, z0, s0) Qx 1679 [(0, .ref 0), (1, .ref aX), (2, .ref aM), (3, .int (nI i))] [.int v, .int v] (Z, I2, L, O)
  refine ok_icmp_eq (t := 1720) dL_law_1679 (by decide) (fun _ => ?_) (fun q => absurd rfl q)
  exact hnext _ _ _ hR2
set_option maxHeartbeats 4000000 in
set_option maxRecDepth 20000 in
theorem lcase46 {g : pG} {Qx : Option Value → pW → Prop} {Z : pZ} {n aX aM : Nat} {R : (Nat → Nat → Int32) → (Nat → Nat → Int64) → (Nat → Nat → Option Nat) → Prop} {rc rs z0 s0 i : Nat} {I : (Nat → Nat → Int32)} {L : (Nat → Nat → Int64)} {O : (Nat → Nat → Option Nat)} (hWT : ∀ I L O, R I L O → WT Z O) (hStr : StrOK g) (hZX : Z[aX]? = some (11, 11)) (hZM : Z[aM]? = some (12, 34)) (hbud : Z.length + 0 ≤ z0 + rc) (hbus : pSl Z + 0 ≤ s0 + rs) (hst46 : St46 n aX aM R) (hin1 : vp_in (nI i + 1) (gL g)) (hin2 : vp_in (nI i + 2) (gL g)) (hin3 : vp_in (nI i + 3) (gL g)) (hin4 : vp_in (nI i + 4) (gL g)) (hin5 : vp_in (nI i + 5) (gL g)) (hnext : ∀ I L O, R I L O → Ok g (400, RL, cL_law, 4, false, rc, rs, z0, s0) Qx 1720 [(0, .ref 0), (1, .ref aX), (2, .ref aM), (3, .int (nI i))] [] (Z, I, L, O)) (hR : R I L O) : Ok g (400, RL, cL_law, 4, false, rc, rs, z0, s0) Qx 1684 [(0, .ref 0), (1, .ref aX), (2, .ref aM), (3, .int (nI i))] [] (Z, I, L, O) := by
  have hW := hWT I L O hR
  refine ok_aload_n dL_law_1684 1 rfl ?_
  obtain ⟨v, I1, I2, hx, hm, hR2⟩ := hst46 I L O   hR
  refine ok_callV (d := (393 + 6)) (mt := m11_back) (mc := 0) (ms := 0) (As := []) (r := []) dL_law_1685 mo11_back mv11_back lkRL_209 rfl hZX (q := (RX11, TX11, 11)) rfl rfl rfl (Nat.le_of_ble_eq_true rfl) (Nat.le_of_ble_eq_true rfl) hbud hbus (pRt_mono ?_)
  refine k11_back 393 hW hZX hx ?_
  intro _
  show Ok g (400, RL, cL_law, 4, false, rc, rs, z0, s0) Qx 1688 [(0, .ref 0), (1, .ref aX), (2, .ref aM), (3, .int (nI i))] [.int v] (Z, I1, L, O)
  refine ok_aload_n dL_law_1688 2 rfl ?_
  refine ok_callV (d := (396 + 3)) (mt := m12_back) (mc := 0) (ms := 0) (As := []) (r := [.int v]) dL_law_1689 mo12_back mv12_back lkRL_212 rfl hZM (q := (RX12, TX12, 34)) rfl rfl rfl (Nat.le_of_ble_eq_true rfl) (Nat.le_of_ble_eq_true rfl) hbud hbus (pRt_mono ?_)
  refine k12_back 396 hW hZM hm ?_
  intro _
  show Ok g (400, RL, cL_law, 4, false, rc, rs, z0, s0) Qx 1692 [(0, .ref 0), (1, .ref aX), (2, .ref aM), (3, .int (nI i))] [.int v, .int v] (Z, I2, L, O)
  refine ok_icmp_eq (t := 1720) dL_law_1692 (by decide) (fun _ => ?_) (fun q => absurd rfl q)
  exact hnext _ _ _ hR2
set_option maxHeartbeats 4000000 in
set_option maxRecDepth 20000 in
theorem lcase47 {g : pG} {Qx : Option Value → pW → Prop} {Z : pZ} {n aX aM : Nat} {R : (Nat → Nat → Int32) → (Nat → Nat → Int64) → (Nat → Nat → Option Nat) → Prop} {rc rs z0 s0 i : Nat} {I : (Nat → Nat → Int32)} {L : (Nat → Nat → Int64)} {O : (Nat → Nat → Option Nat)} (hWT : ∀ I L O, R I L O → WT Z O) (hStr : StrOK g) (hZX : Z[aX]? = some (11, 11)) (hZM : Z[aM]? = some (12, 34)) (hbud : Z.length + 0 ≤ z0 + rc) (hbus : pSl Z + 0 ≤ s0 + rs) (hst47 : St47 n aX aM R) (hin1 : vp_in (nI i + 1) (gL g)) (hin2 : vp_in (nI i + 2) (gL g)) (hin3 : vp_in (nI i + 3) (gL g)) (hin4 : vp_in (nI i + 4) (gL g)) (hin5 : vp_in (nI i + 5) (gL g)) (hnext : ∀ I L O, R I L O → Ok g (400, RL, cL_law, 4, false, rc, rs, z0, s0) Qx 1720 [(0, .ref 0), (1, .ref aX), (2, .ref aM), (3, .int (nI i))] [] (Z, I, L, O)) (hR : R I L O) : Ok g (400, RL, cL_law, 4, false, rc, rs, z0, s0) Qx 1697 [(0, .ref 0), (1, .ref aX), (2, .ref aM), (3, .int (nI i))] [] (Z, I, L, O) := by
  have hW := hWT I L O hR
  refine ok_aload_n dL_law_1697 1 rfl ?_
  refine ok_aload_n dL_law_1698 0 rfl ?_
  refine ok_iload_n dL_law_1699 3 rfl ?_
  refine ok_iconst (v := 1) dL_law_1700 (by decide) ?_
  refine ok_iadd dL_law_1701 ?_
  refine ok_sld dL_law_1702 hin1 ?_
  obtain ⟨v, hx, hm, hR2⟩ := hst47 I L O (gx g (nI i + 1).toNatClampNeg)  hR
  refine ok_callV (d := (397 + 2)) (mt := m11_about) (mc := 0) (ms := 0) (As := [.int (gx g (nI i + 1).toNatClampNeg)]) (r := []) dL_law_1703 mo11_about mv11_about lkRL_213 rfl hZX (q := (RX11, TX11, 11)) rfl rfl rfl (Nat.le_of_ble_eq_true rfl) (Nat.le_of_ble_eq_true rfl) hbud hbus (pRt_mono ?_)
  refine k11_about 397 hW hZX hx ?_
  intro _
  show Ok g (400, RL, cL_law, 4, false, rc, rs, z0, s0) Qx 1706 [(0, .ref 0), (1, .ref aX), (2, .ref aM), (3, .int (nI i))] [.int v] (Z, I, L, O)
  refine ok_aload_n dL_law_1706 2 rfl ?_
  refine ok_aload_n dL_law_1707 0 rfl ?_
  refine ok_iload_n dL_law_1708 3 rfl ?_
  refine ok_iconst (v := 1) dL_law_1709 (by decide) ?_
  refine ok_iadd dL_law_1710 ?_
  refine ok_sld dL_law_1711 hin1 ?_
  refine ok_callV (d := (396 + 3)) (mt := m12_about) (mc := 0) (ms := 0) (As := [.int (gx g (nI i + 1).toNatClampNeg)]) (r := [.int v]) dL_law_1712 mo12_about mv12_about lkRL_216 rfl hZM (q := (RX12, TX12, 34)) rfl rfl rfl (Nat.le_of_ble_eq_true rfl) (Nat.le_of_ble_eq_true rfl) hbud hbus (pRt_mono ?_)
  refine k12_about 396 hW hZM hm ?_
  intro _
  show Ok g (400, RL, cL_law, 4, false, rc, rs, z0, s0) Qx 1715 [(0, .ref 0), (1, .ref aX), (2, .ref aM), (3, .int (nI i))] [.int v, .int v] (Z, I, L, O)
  refine ok_icmp_eq (t := 1720) dL_law_1715 (by decide) (fun _ => ?_) (fun q => absurd rfl q)
  exact hnext _ _ _ hR2
