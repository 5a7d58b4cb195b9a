def oTab : List (Nat × Nat × Nat) := [(1, 0, 2), (1, 1, 136), (1, 2, 270), (1, 3, 277), (1, 4, 278), (1, 5, 324), (1, 6, 283), (1, 7, 286), (1, 8, 287), (1, 9, 295), (2, 0, 3), (2, 1, 10), (2, 2, 132), (2, 3, 133), (2, 4, 134), (2, 5, 135), (3, 0, 4), (3, 1, 5), (3, 2, 6), (6, 0, 7), (6, 1, 8), (6, 2, 9), (10, 0, 11), (136, 0, 137), (136, 1, 144), (136, 2, 266), (136, 3, 267), (136, 4, 268), (136, 5, 269), (137, 0, 138), (137, 1, 139), (137, 2, 140), (140, 0, 141), (140, 1, 142), (140, 2, 143), (144, 0, 145), (270, 0, 271), (270, 1, 272), (270, 2, 273), (273, 0, 274), (273, 1, 275), (273, 2, 276), (278, 0, 279), (278, 1, 280), (278, 2, 281), (278, 3, 282), (283, 0, 284), (283, 1, 285), (286, 0, 283), (287, 0, 288), (287, 1, 289), (287, 2, 290), (287, 3, 291), (287, 4, 292), (287, 5, 293), (287, 6, 294), (295, 0, 283), (295, 1, 296), (295, 2, 297), (295, 3, 298), (295, 4, 299), (324, 0, 278), (331, 0, 332), (331, 1, 333), (331, 2, 334), (331, 3, 335), (331, 15, 336), (331, 20, 337), (331, 21, 338), (331, 22, 339), (331, 25, 340), (331, 26, 341), (331, 27, 342), (331, 28, 343), (331, 29, 344), (331, 30, 345), (331, 32, 346), (331, 33, 347)]
def OF (O : TO) : Prop := (∀ q, q ∈ oTab → rO O q.1 q.2.1 = q.2.2) ∧ (∀ k, k < 30 → rO O 11 k = 12 + 4 * k ∧ rO O (12 + 4 * k) 0 = 12 + 4 * k + 1 ∧ rO O (12 + 4 * k) 1 = 12 + 4 * k + 2 ∧ rO O (12 + 4 * k) 2 = 12 + 4 * k + 3) ∧ (∀ k, k < 30 → rO O 145 k = 146 + 4 * k ∧ rO O (146 + 4 * k) 0 = 146 + 4 * k + 1 ∧ rO O (146 + 4 * k) 1 = 146 + 4 * k + 2 ∧ rO O (146 + 4 * k) 2 = 146 + 4 * k + 3) ∧ (∀ k, k < 4 → rO O 277 k = 300 + 6 * k ∧ rO O (300 + 6 * k) 0 = 300 + 6 * k + 1 ∧ rO O (300 + 6 * k) 1 = 300 + 6 * k + 2 ∧ rO O (300 + 6 * k) 2 = 300 + 6 * k + 3 ∧ rO O (300 + 6 * k) 3 = 300 + 6 * k + 4 ∧ rO O (300 + 6 * k) 4 = 300 + 6 * k + 5)
theorem o_1_0 {O : TO} (h : OF O) : rO O 1 0 = 2 := h.1 (1, 0, 2) (List.mem_of_elem_eq_true rfl)
theorem o_1_1 {O : TO} (h : OF O) : rO O 1 1 = 136 := h.1 (1, 1, 136) (List.mem_of_elem_eq_true rfl)
theorem o_1_2 {O : TO} (h : OF O) : rO O 1 2 = 270 := h.1 (1, 2, 270) (List.mem_of_elem_eq_true rfl)
theorem o_1_3 {O : TO} (h : OF O) : rO O 1 3 = 277 := h.1 (1, 3, 277) (List.mem_of_elem_eq_true rfl)
theorem o_1_4 {O : TO} (h : OF O) : rO O 1 4 = 278 := h.1 (1, 4, 278) (List.mem_of_elem_eq_true rfl)
theorem o_1_5 {O : TO} (h : OF O) : rO O 1 5 = 324 := h.1 (1, 5, 324) (List.mem_of_elem_eq_true rfl)
theorem o_1_6 {O : TO} (h : OF O) : rO O 1 6 = 283 := h.1 (1, 6, 283) (List.mem_of_elem_eq_true rfl)
theorem o_1_7 {O : TO} (h : OF O) : rO O 1 7 = 286 := h.1 (1, 7, 286) (List.mem_of_elem_eq_true rfl)
theorem o_1_8 {O : TO} (h : OF O) : rO O 1 8 = 287 := h.1 (1, 8, 287) (List.mem_of_elem_eq_true rfl)
theorem o_1_9 {O : TO} (h : OF O) : rO O 1 9 = 295 := h.1 (1, 9, 295) (List.mem_of_elem_eq_true rfl)
theorem o_2_0 {O : TO} (h : OF O) : rO O 2 0 = 3 := h.1 (2, 0, 3) (List.mem_of_elem_eq_true rfl)
theorem o_2_1 {O : TO} (h : OF O) : rO O 2 1 = 10 := h.1 (2, 1, 10) (List.mem_of_elem_eq_true rfl)
theorem o_2_2 {O : TO} (h : OF O) : rO O 2 2 = 132 := h.1 (2, 2, 132) (List.mem_of_elem_eq_true rfl)
theorem o_2_3 {O : TO} (h : OF O) : rO O 2 3 = 133 := h.1 (2, 3, 133) (List.mem_of_elem_eq_true rfl)
theorem o_2_4 {O : TO} (h : OF O) : rO O 2 4 = 134 := h.1 (2, 4, 134) (List.mem_of_elem_eq_true rfl)
theorem o_2_5 {O : TO} (h : OF O) : rO O 2 5 = 135 := h.1 (2, 5, 135) (List.mem_of_elem_eq_true rfl)
theorem o_3_0 {O : TO} (h : OF O) : rO O 3 0 = 4 := h.1 (3, 0, 4) (List.mem_of_elem_eq_true rfl)
theorem o_3_1 {O : TO} (h : OF O) : rO O 3 1 = 5 := h.1 (3, 1, 5) (List.mem_of_elem_eq_true rfl)
theorem o_3_2 {O : TO} (h : OF O) : rO O 3 2 = 6 := h.1 (3, 2, 6) (List.mem_of_elem_eq_true rfl)
theorem o_6_0 {O : TO} (h : OF O) : rO O 6 0 = 7 := h.1 (6, 0, 7) (List.mem_of_elem_eq_true rfl)
theorem o_6_1 {O : TO} (h : OF O) : rO O 6 1 = 8 := h.1 (6, 1, 8) (List.mem_of_elem_eq_true rfl)
theorem o_6_2 {O : TO} (h : OF O) : rO O 6 2 = 9 := h.1 (6, 2, 9) (List.mem_of_elem_eq_true rfl)
theorem o_10_0 {O : TO} (h : OF O) : rO O 10 0 = 11 := h.1 (10, 0, 11) (List.mem_of_elem_eq_true rfl)
theorem o_136_0 {O : TO} (h : OF O) : rO O 136 0 = 137 := h.1 (136, 0, 137) (List.mem_of_elem_eq_true rfl)
theorem o_136_1 {O : TO} (h : OF O) : rO O 136 1 = 144 := h.1 (136, 1, 144) (List.mem_of_elem_eq_true rfl)
theorem o_136_2 {O : TO} (h : OF O) : rO O 136 2 = 266 := h.1 (136, 2, 266) (List.mem_of_elem_eq_true rfl)
theorem o_136_3 {O : TO} (h : OF O) : rO O 136 3 = 267 := h.1 (136, 3, 267) (List.mem_of_elem_eq_true rfl)
theorem o_136_4 {O : TO} (h : OF O) : rO O 136 4 = 268 := h.1 (136, 4, 268) (List.mem_of_elem_eq_true rfl)
theorem o_136_5 {O : TO} (h : OF O) : rO O 136 5 = 269 := h.1 (136, 5, 269) (List.mem_of_elem_eq_true rfl)
theorem o_137_0 {O : TO} (h : OF O) : rO O 137 0 = 138 := h.1 (137, 0, 138) (List.mem_of_elem_eq_true rfl)
theorem o_137_1 {O : TO} (h : OF O) : rO O 137 1 = 139 := h.1 (137, 1, 139) (List.mem_of_elem_eq_true rfl)
theorem o_137_2 {O : TO} (h : OF O) : rO O 137 2 = 140 := h.1 (137, 2, 140) (List.mem_of_elem_eq_true rfl)
theorem o_140_0 {O : TO} (h : OF O) : rO O 140 0 = 141 := h.1 (140, 0, 141) (List.mem_of_elem_eq_true rfl)
theorem o_140_1 {O : TO} (h : OF O) : rO O 140 1 = 142 := h.1 (140, 1, 142) (List.mem_of_elem_eq_true rfl)
theorem o_140_2 {O : TO} (h : OF O) : rO O 140 2 = 143 := h.1 (140, 2, 143) (List.mem_of_elem_eq_true rfl)
theorem o_144_0 {O : TO} (h : OF O) : rO O 144 0 = 145 := h.1 (144, 0, 145) (List.mem_of_elem_eq_true rfl)
theorem o_270_0 {O : TO} (h : OF O) : rO O 270 0 = 271 := h.1 (270, 0, 271) (List.mem_of_elem_eq_true rfl)
theorem o_270_1 {O : TO} (h : OF O) : rO O 270 1 = 272 := h.1 (270, 1, 272) (List.mem_of_elem_eq_true rfl)
theorem o_270_2 {O : TO} (h : OF O) : rO O 270 2 = 273 := h.1 (270, 2, 273) (List.mem_of_elem_eq_true rfl)
theorem o_273_0 {O : TO} (h : OF O) : rO O 273 0 = 274 := h.1 (273, 0, 274) (List.mem_of_elem_eq_true rfl)
theorem o_273_1 {O : TO} (h : OF O) : rO O 273 1 = 275 := h.1 (273, 1, 275) (List.mem_of_elem_eq_true rfl)
theorem o_273_2 {O : TO} (h : OF O) : rO O 273 2 = 276 := h.1 (273, 2, 276) (List.mem_of_elem_eq_true rfl)
theorem o_278_0 {O : TO} (h : OF O) : rO O 278 0 = 279 := h.1 (278, 0, 279) (List.mem_of_elem_eq_true rfl)
theorem o_278_1 {O : TO} (h : OF O) : rO O 278 1 = 280 := h.1 (278, 1, 280) (List.mem_of_elem_eq_true rfl)
theorem o_278_2 {O : TO} (h : OF O) : rO O 278 2 = 281 := h.1 (278, 2, 281) (List.mem_of_elem_eq_true rfl)
theorem o_278_3 {O : TO} (h : OF O) : rO O 278 3 = 282 := h.1 (278, 3, 282) (List.mem_of_elem_eq_true rfl)
theorem o_283_0 {O : TO} (h : OF O) : rO O 283 0 = 284 := h.1 (283, 0, 284) (List.mem_of_elem_eq_true rfl)
theorem o_283_1 {O : TO} (h : OF O) : rO O 283 1 = 285 := h.1 (283, 1, 285) (List.mem_of_elem_eq_true rfl)
theorem o_286_0 {O : TO} (h : OF O) : rO O 286 0 = 283 := h.1 (286, 0, 283) (List.mem_of_elem_eq_true rfl)
theorem o_287_0 {O : TO} (h : OF O) : rO O 287 0 = 288 := h.1 (287, 0, 288) (List.mem_of_elem_eq_true rfl)
theorem o_287_1 {O : TO} (h : OF O) : rO O 287 1 = 289 := h.1 (287, 1, 289) (List.mem_of_elem_eq_true rfl)
theorem o_287_2 {O : TO} (h : OF O) : rO O 287 2 = 290 := h.1 (287, 2, 290) (List.mem_of_elem_eq_true rfl)
theorem o_287_3 {O : TO} (h : OF O) : rO O 287 3 = 291 := h.1 (287, 3, 291) (List.mem_of_elem_eq_true rfl)
theorem o_287_4 {O : TO} (h : OF O) : rO O 287 4 = 292 := h.1 (287, 4, 292) (List.mem_of_elem_eq_true rfl)
theorem o_287_5 {O : TO} (h : OF O) : rO O 287 5 = 293 := h.1 (287, 5, 293) (List.mem_of_elem_eq_true rfl)
theorem o_287_6 {O : TO} (h : OF O) : rO O 287 6 = 294 := h.1 (287, 6, 294) (List.mem_of_elem_eq_true rfl)
theorem o_295_0 {O : TO} (h : OF O) : rO O 295 0 = 283 := h.1 (295, 0, 283) (List.mem_of_elem_eq_true rfl)
theorem o_295_1 {O : TO} (h : OF O) : rO O 295 1 = 296 := h.1 (295, 1, 296) (List.mem_of_elem_eq_true rfl)
theorem o_295_2 {O : TO} (h : OF O) : rO O 295 2 = 297 := h.1 (295, 2, 297) (List.mem_of_elem_eq_true rfl)
theorem o_295_3 {O : TO} (h : OF O) : rO O 295 3 = 298 := h.1 (295, 3, 298) (List.mem_of_elem_eq_true rfl)
theorem o_295_4 {O : TO} (h : OF O) : rO O 295 4 = 299 := h.1 (295, 4, 299) (List.mem_of_elem_eq_true rfl)
theorem o_324_0 {O : TO} (h : OF O) : rO O 324 0 = 278 := h.1 (324, 0, 278) (List.mem_of_elem_eq_true rfl)
theorem o_331_0 {O : TO} (h : OF O) : rO O 331 0 = 332 := h.1 (331, 0, 332) (List.mem_of_elem_eq_true rfl)
theorem o_331_1 {O : TO} (h : OF O) : rO O 331 1 = 333 := h.1 (331, 1, 333) (List.mem_of_elem_eq_true rfl)
theorem o_331_2 {O : TO} (h : OF O) : rO O 331 2 = 334 := h.1 (331, 2, 334) (List.mem_of_elem_eq_true rfl)
theorem o_331_3 {O : TO} (h : OF O) : rO O 331 3 = 335 := h.1 (331, 3, 335) (List.mem_of_elem_eq_true rfl)
theorem o_331_15 {O : TO} (h : OF O) : rO O 331 15 = 336 := h.1 (331, 15, 336) (List.mem_of_elem_eq_true rfl)
theorem o_331_20 {O : TO} (h : OF O) : rO O 331 20 = 337 := h.1 (331, 20, 337) (List.mem_of_elem_eq_true rfl)
theorem o_331_21 {O : TO} (h : OF O) : rO O 331 21 = 338 := h.1 (331, 21, 338) (List.mem_of_elem_eq_true rfl)
theorem o_331_22 {O : TO} (h : OF O) : rO O 331 22 = 339 := h.1 (331, 22, 339) (List.mem_of_elem_eq_true rfl)
theorem o_331_25 {O : TO} (h : OF O) : rO O 331 25 = 340 := h.1 (331, 25, 340) (List.mem_of_elem_eq_true rfl)
theorem o_331_26 {O : TO} (h : OF O) : rO O 331 26 = 341 := h.1 (331, 26, 341) (List.mem_of_elem_eq_true rfl)
theorem o_331_27 {O : TO} (h : OF O) : rO O 331 27 = 342 := h.1 (331, 27, 342) (List.mem_of_elem_eq_true rfl)
theorem o_331_28 {O : TO} (h : OF O) : rO O 331 28 = 343 := h.1 (331, 28, 343) (List.mem_of_elem_eq_true rfl)
theorem o_331_29 {O : TO} (h : OF O) : rO O 331 29 = 344 := h.1 (331, 29, 344) (List.mem_of_elem_eq_true rfl)
theorem o_331_30 {O : TO} (h : OF O) : rO O 331 30 = 345 := h.1 (331, 30, 345) (List.mem_of_elem_eq_true rfl)
theorem o_331_32 {O : TO} (h : OF O) : rO O 331 32 = 346 := h.1 (331, 32, 346) (List.mem_of_elem_eq_true rfl)
theorem o_331_33 {O : TO} (h : OF O) : rO O 331 33 = 347 := h.1 (331, 33, 347) (List.mem_of_elem_eq_true rfl)
/-! where the class holds what stands at t in the reference's row; a Whole at wh -/
def la (wh t : Nat) : Nat := if t < 2 then wh + 1 else if t < 4 then wh else if t < 5 then wh + 8 else if t < 7 then wh else if t < 10 then wh + 4 else if t < 90 then wh + 5 else if t < 114 then wh + 6 else if t < 119 then wh + 2 else if t < 199 then wh + 3 else if t < 207 then wh + 130 else if t < 231 then wh + 131 + (t - 207) % 3 else wh + 7
def lk (t : Nat) : Nat := if t < 2 then 3 + t else if t < 4 then 6 + t else if t < 5 then 2 else if t < 7 then t + 1 else if t < 9 then t - 3 else if t < 10 then 3 else if t < 90 then t - 10 else if t < 114 then t - 90 else if t < 119 then t - 114 else if t < 199 then t - 119 else if t < 207 then t - 199 else if t < 231 then (t - 207) / 3 else t - 4341
def dm (t : Nat) : Prop := t < 231 ∨ (4341 ≤ t ∧ t < 4371)
def li (wh a k : Nat) : Nat := if a = wh + 1 then k - 3 else if a = wh then (if 8 ≤ k then k - 6 else k - 1) else if a = wh + 8 then 4 else if a = wh + 4 then (if k = 3 then 9 else k + 3) else if a = wh + 5 then k + 10 else if a = wh + 6 then k + 90 else if a = wh + 2 then k + 114 else if a = wh + 3 then k + 119 else if a = wh + 130 then k + 199 else if a = wh + 7 then k + 4341 else 207 + 3 * k + (a - wh - 131)
theorem li_la {wh t : Nat} (h : dm t) : li wh (la wh t) (lk t) = t := by
  unfold dm at h
  by_cases h1 : t < 2
  · simp (disch := omega) only [la, lk, li, qL, qb, qbl, qadd, qmul, qsubm, qdm, qsub, qdiv, qcl, qlt, qle, qeq, nltT, nltF, nleT, nleF, neqT, neqF, or_false, false_or, or_true, true_or, or_self, and_true, true_and, and_false, false_and, and_self, not_true_eq_false, not_false_eq_true, ↓reduceIte] <;> omega
  by_cases h2 : t < 4
  · simp (disch := omega) only [la, lk, li, qL, qb, qbl, qadd, qmul, qsubm, qdm, qsub, qdiv, qcl, qlt, qle, qeq, nltT, nltF, nleT, nleF, neqT, neqF, or_false, false_or, or_true, true_or, or_self, and_true, true_and, and_false, false_and, and_self, not_true_eq_false, not_false_eq_true, ↓reduceIte] <;> omega
  by_cases h3 : t < 5
  · simp (disch := omega) only [la, lk, li, qL, qb, qbl, qadd, qmul, qsubm, qdm, qsub, qdiv, qcl, qlt, qle, qeq, nltT, nltF, nleT, nleF, neqT, neqF, or_false, false_or, or_true, true_or, or_self, and_true, true_and, and_false, false_and, and_self, not_true_eq_false, not_false_eq_true, ↓reduceIte] <;> omega
  by_cases h4 : t < 7
  · simp (disch := omega) only [la, lk, li, qL, qb, qbl, qadd, qmul, qsubm, qdm, qsub, qdiv, qcl, qlt, qle, qeq, nltT, nltF, nleT, nleF, neqT, neqF, or_false, false_or, or_true, true_or, or_self, and_true, true_and, and_false, false_and, and_self, not_true_eq_false, not_false_eq_true, ↓reduceIte] <;> omega
  by_cases h5 : t < 9
  · simp (disch := omega) only [la, lk, li, qL, qb, qbl, qadd, qmul, qsubm, qdm, qsub, qdiv, qcl, qlt, qle, qeq, nltT, nltF, nleT, nleF, neqT, neqF, or_false, false_or, or_true, true_or, or_self, and_true, true_and, and_false, false_and, and_self, not_true_eq_false, not_false_eq_true, ↓reduceIte] <;> omega
  by_cases h6 : t < 10
  · simp (disch := omega) only [la, lk, li, qL, qb, qbl, qadd, qmul, qsubm, qdm, qsub, qdiv, qcl, qlt, qle, qeq, nltT, nltF, nleT, nleF, neqT, neqF, or_false, false_or, or_true, true_or, or_self, and_true, true_and, and_false, false_and, and_self, not_true_eq_false, not_false_eq_true, ↓reduceIte] <;> omega
  by_cases h7 : t < 90
  · simp (disch := omega) only [la, lk, li, qL, qb, qbl, qadd, qmul, qsubm, qdm, qsub, qdiv, qcl, qlt, qle, qeq, nltT, nltF, nleT, nleF, neqT, neqF, or_false, false_or, or_true, true_or, or_self, and_true, true_and, and_false, false_and, and_self, not_true_eq_false, not_false_eq_true, ↓reduceIte] <;> omega
  by_cases h8 : t < 114
  · simp (disch := omega) only [la, lk, li, qL, qb, qbl, qadd, qmul, qsubm, qdm, qsub, qdiv, qcl, qlt, qle, qeq, nltT, nltF, nleT, nleF, neqT, neqF, or_false, false_or, or_true, true_or, or_self, and_true, true_and, and_false, false_and, and_self, not_true_eq_false, not_false_eq_true, ↓reduceIte] <;> omega
  by_cases h9 : t < 119
  · simp (disch := omega) only [la, lk, li, qL, qb, qbl, qadd, qmul, qsubm, qdm, qsub, qdiv, qcl, qlt, qle, qeq, nltT, nltF, nleT, nleF, neqT, neqF, or_false, false_or, or_true, true_or, or_self, and_true, true_and, and_false, false_and, and_self, not_true_eq_false, not_false_eq_true, ↓reduceIte] <;> omega
  by_cases h10 : t < 199
  · simp (disch := omega) only [la, lk, li, qL, qb, qbl, qadd, qmul, qsubm, qdm, qsub, qdiv, qcl, qlt, qle, qeq, nltT, nltF, nleT, nleF, neqT, neqF, or_false, false_or, or_true, true_or, or_self, and_true, true_and, and_false, false_and, and_self, not_true_eq_false, not_false_eq_true, ↓reduceIte] <;> omega
  by_cases h11 : t < 207
  · simp (disch := omega) only [la, lk, li, qL, qb, qbl, qadd, qmul, qsubm, qdm, qsub, qdiv, qcl, qlt, qle, qeq, nltT, nltF, nleT, nleF, neqT, neqF, or_false, false_or, or_true, true_or, or_self, and_true, true_and, and_false, false_and, and_self, not_true_eq_false, not_false_eq_true, ↓reduceIte] <;> omega
  by_cases h12 : t < 231
  · simp (disch := omega) only [la, lk, li, qL, qb, qbl, qadd, qmul, qsubm, qdm, qsub, qdiv, qcl, qlt, qle, qeq, nltT, nltF, nleT, nleF, neqT, neqF, or_false, false_or, or_true, true_or, or_self, and_true, true_and, and_false, false_and, and_self, not_true_eq_false, not_false_eq_true, ↓reduceIte] <;> omega
  · simp (disch := omega) only [la, lk, li, qL, qb, qbl, qadd, qmul, qsubm, qdm, qsub, qdiv, qcl, qlt, qle, qeq, nltT, nltF, nleT, nleF, neqT, neqF, or_false, false_or, or_true, true_or, or_self, and_true, true_and, and_false, false_and, and_self, not_true_eq_false, not_false_eq_true, ↓reduceIte] <;> omega
theorem la_rng {wh t : Nat} (h : dm t) : wh ≤ la wh t ∧ la wh t < wh + 134 ∧ ¬ (wh + 10 ≤ la wh t ∧ la wh t < wh + 130) ∧ la wh t ≠ wh + 9 := by
  unfold dm at h
  by_cases h1 : t < 2
  · simp (disch := omega) only [la, qL, qb, qbl, qadd, qmul, qsubm, qdm, qsub, qdiv, qcl, qlt, qle, qeq, nltT, nltF, nleT, nleF, neqT, neqF, or_false, false_or, or_true, true_or, or_self, and_true, true_and, and_false, false_and, and_self, not_true_eq_false, not_false_eq_true, ↓reduceIte] <;> omega
  by_cases h2 : t < 4
  · simp (disch := omega) only [la, qL, qb, qbl, qadd, qmul, qsubm, qdm, qsub, qdiv, qcl, qlt, qle, qeq, nltT, nltF, nleT, nleF, neqT, neqF, or_false, false_or, or_true, true_or, or_self, and_true, true_and, and_false, false_and, and_self, not_true_eq_false, not_false_eq_true, ↓reduceIte] <;> omega
  by_cases h3 : t < 5
  · simp (disch := omega) only [la, qL, qb, qbl, qadd, qmul, qsubm, qdm, qsub, qdiv, qcl, qlt, qle, qeq, nltT, nltF, nleT, nleF, neqT, neqF, or_false, false_or, or_true, true_or, or_self, and_true, true_and, and_false, false_and, and_self, not_true_eq_false, not_false_eq_true, ↓reduceIte] <;> omega
  by_cases h4 : t < 7
  · simp (disch := omega) only [la, qL, qb, qbl, qadd, qmul, qsubm, qdm, qsub, qdiv, qcl, qlt, qle, qeq, nltT, nltF, nleT, nleF, neqT, neqF, or_false, false_or, or_true, true_or, or_self, and_true, true_and, and_false, false_and, and_self, not_true_eq_false, not_false_eq_true, ↓reduceIte] <;> omega
  by_cases h6 : t < 10
  · simp (disch := omega) only [la, qL, qb, qbl, qadd, qmul, qsubm, qdm, qsub, qdiv, qcl, qlt, qle, qeq, nltT, nltF, nleT, nleF, neqT, neqF, or_false, false_or, or_true, true_or, or_self, and_true, true_and, and_false, false_and, and_self, not_true_eq_false, not_false_eq_true, ↓reduceIte] <;> omega
  by_cases h7 : t < 90
  · simp (disch := omega) only [la, qL, qb, qbl, qadd, qmul, qsubm, qdm, qsub, qdiv, qcl, qlt, qle, qeq, nltT, nltF, nleT, nleF, neqT, neqF, or_false, false_or, or_true, true_or, or_self, and_true, true_and, and_false, false_and, and_self, not_true_eq_false, not_false_eq_true, ↓reduceIte] <;> omega
  by_cases h8 : t < 114
  · simp (disch := omega) only [la, qL, qb, qbl, qadd, qmul, qsubm, qdm, qsub, qdiv, qcl, qlt, qle, qeq, nltT, nltF, nleT, nleF, neqT, neqF, or_false, false_or, or_true, true_or, or_self, and_true, true_and, and_false, false_and, and_self, not_true_eq_false, not_false_eq_true, ↓reduceIte] <;> omega
  by_cases h9 : t < 119
  · simp (disch := omega) only [la, qL, qb, qbl, qadd, qmul, qsubm, qdm, qsub, qdiv, qcl, qlt, qle, qeq, nltT, nltF, nleT, nleF, neqT, neqF, or_false, false_or, or_true, true_or, or_self, and_true, true_and, and_false, false_and, and_self, not_true_eq_false, not_false_eq_true, ↓reduceIte] <;> omega
  by_cases h10 : t < 199
  · simp (disch := omega) only [la, qL, qb, qbl, qadd, qmul, qsubm, qdm, qsub, qdiv, qcl, qlt, qle, qeq, nltT, nltF, nleT, nleF, neqT, neqF, or_false, false_or, or_true, true_or, or_self, and_true, true_and, and_false, false_and, and_self, not_true_eq_false, not_false_eq_true, ↓reduceIte] <;> omega
  by_cases h11 : t < 207
  · simp (disch := omega) only [la, qL, qb, qbl, qadd, qmul, qsubm, qdm, qsub, qdiv, qcl, qlt, qle, qeq, nltT, nltF, nleT, nleF, neqT, neqF, or_false, false_or, or_true, true_or, or_self, and_true, true_and, and_false, false_and, and_self, not_true_eq_false, not_false_eq_true, ↓reduceIte] <;> omega
  by_cases h12 : t < 231
  · simp (disch := omega) only [la, qL, qb, qbl, qadd, qmul, qsubm, qdm, qsub, qdiv, qcl, qlt, qle, qeq, nltT, nltF, nleT, nleF, neqT, neqF, or_false, false_or, or_true, true_or, or_self, and_true, true_and, and_false, false_and, and_self, not_true_eq_false, not_false_eq_true, ↓reduceIte] <;> omega
  · simp (disch := omega) only [la, qL, qb, qbl, qadd, qmul, qsubm, qdm, qsub, qdiv, qcl, qlt, qle, qeq, nltT, nltF, nleT, nleF, neqT, neqF, or_false, false_or, or_true, true_or, or_self, and_true, true_and, and_false, false_and, and_self, not_true_eq_false, not_false_eq_true, ↓reduceIte] <;> omega
/-- a moment's parts -/
def sa (u : Nat) : Nat := if u < 3 then 0 else if u < 83 then 1 else if u < 107 then 2 else 3
def sk (u : Nat) : Nat := if u < 2 then u + 4 else if u < 3 then 3 else if u < 83 then u - 3 else if u < 107 then u - 83 else u - 107
def ts (u : Nat) : Nat := if u < 107 then 7 + u else 4234 + u
theorem sa_le (u : Nat) : sa u ≤ 3 := by
  by_cases h1 : u < 3
  · simp (disch := omega) only [sa, qL, qb, qbl, qadd, qmul, qsubm, qdm, qsub, qdiv, qcl, qlt, qle, qeq, nltT, nltF, nleT, nleF, neqT, neqF, or_false, false_or, or_true, true_or, or_self, and_true, true_and, and_false, false_and, and_self, not_true_eq_false, not_false_eq_true, ↓reduceIte]
  by_cases h2 : u < 83
  · simp (disch := omega) only [sa, qL, qb, qbl, qadd, qmul, qsubm, qdm, qsub, qdiv, qcl, qlt, qle, qeq, nltT, nltF, nleT, nleF, neqT, neqF, or_false, false_or, or_true, true_or, or_self, and_true, true_and, and_false, false_and, and_self, not_true_eq_false, not_false_eq_true, ↓reduceIte]
  by_cases h3 : u < 107
  · simp (disch := omega) only [sa, qL, qb, qbl, qadd, qmul, qsubm, qdm, qsub, qdiv, qcl, qlt, qle, qeq, nltT, nltF, nleT, nleF, neqT, neqF, or_false, false_or, or_true, true_or, or_self, and_true, true_and, and_false, false_and, and_self, not_true_eq_false, not_false_eq_true, ↓reduceIte]
  · simp (disch := omega) only [sa, qL, qb, qbl, qadd, qmul, qsubm, qdm, qsub, qdiv, qcl, qlt, qle, qeq, nltT, nltF, nleT, nleF, neqT, neqF, or_false, false_or, or_true, true_or, or_self, and_true, true_and, and_false, false_and, and_self, not_true_eq_false, not_false_eq_true, ↓reduceIte]
theorem ts_la {wh u : Nat} (h : u < 137) : la wh (ts u) = wh + 4 + sa u ∧ lk (ts u) = sk u ∧ dm (ts u) := by
  unfold dm
  by_cases h1 : u < 2
  · simp (disch := omega) only [ts, la, lk, sa, sk, qL, qb, qbl, qadd, qmul, qsubm, qdm, qsub, qdiv, qcl, qlt, qle, qeq, nltT, nltF, nleT, nleF, neqT, neqF, or_false, false_or, or_true, true_or, or_self, and_true, true_and, and_false, false_and, and_self, not_true_eq_false, not_false_eq_true, ↓reduceIte] <;> omega
  by_cases h2 : u < 3
  · simp (disch := omega) only [ts, la, lk, sa, sk, qL, qb, qbl, qadd, qmul, qsubm, qdm, qsub, qdiv, qcl, qlt, qle, qeq, nltT, nltF, nleT, nleF, neqT, neqF, or_false, false_or, or_true, true_or, or_self, and_true, true_and, and_false, false_and, and_self, not_true_eq_false, not_false_eq_true, ↓reduceIte] <;> omega
  by_cases h3 : u < 83
  · simp (disch := omega) only [ts, la, lk, sa, sk, qL, qb, qbl, qadd, qmul, qsubm, qdm, qsub, qdiv, qcl, qlt, qle, qeq, nltT, nltF, nleT, nleF, neqT, neqF, or_false, false_or, or_true, true_or, or_self, and_true, true_and, and_false, false_and, and_self, not_true_eq_false, not_false_eq_true, ↓reduceIte] <;> omega
  by_cases h4 : u < 107
  · simp (disch := omega) only [ts, la, lk, sa, sk, qL, qb, qbl, qadd, qmul, qsubm, qdm, qsub, qdiv, qcl, qlt, qle, qeq, nltT, nltF, nleT, nleF, neqT, neqF, or_false, false_or, or_true, true_or, or_self, and_true, true_and, and_false, false_and, and_self, not_true_eq_false, not_false_eq_true, ↓reduceIte] <;> omega
  · simp (disch := omega) only [ts, la, lk, sa, sk, qL, qb, qbl, qadd, qmul, qsubm, qdm, qsub, qdiv, qcl, qlt, qle, qeq, nltT, nltF, nleT, nleF, neqT, neqF, or_false, false_or, or_true, true_or, or_self, and_true, true_and, and_false, false_and, and_self, not_true_eq_false, not_false_eq_true, ↓reduceIte] <;> omega
def RWn (I : TI) (wh : Nat) (N : TN) : Prop := ∀ t, dm t → I (la wh t) (lk t) = nI (N t)
def RWs (I : TI) (wh e : Nat) (N : TN) : Prop := I (wh + 8) 1 = nI e ∧ e < 30 ∧ ∀ k, k < N 4 → ∀ u, u < 137 → I (wh + 10 + 4 * ((e + k) % 30) + sa u) (sk u) = nI (N (231 + 137 * k + u))
def RW (I : TI) (wh e : Nat) (N : TN) : Prop := RWn I wh N ∧ RWs I wh e N
def SB (S : TN) : Prop := S 0 ≤ 9999 ∧ S 1 < 30697 ∧ S 2 ≤ 30 ∧ (∀ k, k < 80 → S (3 + k) ≤ 9) ∧ (∀ k, k < 24 → S (83 + k) ≤ 99) ∧ (∀ c, c < 4 → S (83 + 6 * c) = 0) ∧ ∀ k, k < 30 → S (107 + k) < 3400000
def NB (N : TN) : Prop := N 0 ≤ 5 ∧ N 1 ≤ 4 ∧ N 2 ≤ 4 ∧ (N 3 = 4294967295 ∨ N 3 < N 2) ∧ N 4 ≤ 30 ∧ N 5 ≤ 8 ∧ N 6 ≤ 8 ∧ (∀ r, r < 5 → Ln N r ≤ 16) ∧ (∀ r, r < N 0 → 1 ≤ Ln N r) ∧ (∀ k, k < 80 → N (119 + k) ≤ 5) ∧ (∀ k, k < 8 → N (199 + k) ≤ 5) ∧ (∀ k, k < N 6 → N (207 + 3 * k) < N 1 ∧ 1 ≤ N (208 + 3 * k) ∧ N (208 + 3 * k) ≤ 5 ∧ N (209 + 3 * k) ≤ 99) ∧ SB (fun u => N (ts u)) ∧ ∀ k, k < N 4 → SB (fun u => N (231 + 137 * k + u))
theorem NB_WB {N : TN} (h : NB N) : WB N := by
  obtain ⟨h0, h1, -, -, -, -, -, hl, hl1, hk, -, -, ⟨s0, s1, -, sw, sh, s6, -⟩, -⟩ := h
  refine ⟨h0, h1, hl, hl1, fun r p hr hp => ?_, fun r p hr hp => ?_, fun c k hc hk => ?_, fun c hc => ?_, s0, s1⟩
  · have := hk (16 * r + p) (by omega)
    unfold K; rw [Nat.add_assoc]; exact this
  · have := sw (16 * r + p) (by omega)
    have e : ts (3 + (16 * r + p)) = 10 + 16 * r + p := by unfold ts; rw [if_pos (by omega)]; omega
    simp only [e] at this
    exact this
  · have := sh (6 * c + k) (by omega)
    have e : ts (83 + (6 * c + k)) = 90 + 6 * c + k := by unfold ts; rw [if_pos (by omega)]; omega
    simp only [e] at this
    exact this
  · have := s6 c hc
    have e : ts (83 + 6 * c) = 90 + 6 * c + 0 := by unfold ts; rw [if_pos (by omega)]; omega
    simp only [e] at this
    exact this
def upN (N : TN) (t v : Nat) : TN := fun j => if j = t then v else N j
theorem upN_s (N : TN) (t v : Nat) : upN N t v t = v := if_pos rfl
theorem upN_o (N : TN) {t v j : Nat} (h : j ≠ t) : upN N t v j = N j := if_neg h
theorem RWn_up {I : TI} {wh t v : Nat} {N : TN} (h : RWn I wh N) (ht : dm t) : RWn (sI I (la wh t) (lk t) (nI v)) wh (upN N t v) := by
  intro t' ht'
  by_cases e : t' = t
  · subst e; rw [upN_s, sI_s]
  · rw [upN_o N e, sI_e]
    · exact h t' ht'
    · by_cases e1 : la wh t' = la wh t
      · refine Or.inr (fun e2 => e ?_)
        have q := li_la (wh := wh) ht'
        rw [e1, e2, li_la ht] at q
        exact q.symm
      · exact Or.inl e1
theorem RWs_up {I : TI} {wh e t v : Nat} {N : TN} (h : RWs I wh e N) (h30 : N 4 ≤ 30) (ht : dm t) (h4 : t ≠ 4) : RWs (sI I (la wh t) (lk t) (nI v)) wh e (upN N t v) := by
  obtain ⟨h1, h2, h3⟩ := h
  have hr := la_rng (wh := wh) ht
  refine ⟨?_, h2, fun k hk u hu => ?_⟩
  · rw [sI_e]
    · exact h1
    · by_cases e1 : wh + 8 = la wh t
      · refine Or.inr (fun e2 => ?_)
        have q := li_la (wh := wh) ht
        rw [← e1, ← e2] at q
        unfold li at q
        rw [if_neg (by omega), if_neg (by omega), if_pos rfl] at q
        exact h4 q.symm
      · exact Or.inl e1
  · rw [upN_o N (Ne.symm h4)] at hk
    have hs := sa_le u
    have hm := Nat.mod_lt (e + k) (show 30 > 0 by omega)
    rw [sI_e, upN_o]
    · exact h3 k hk u hu
    · unfold dm at ht; omega
    · exact Or.inl (by omega)
theorem MV_up {J : TI} {O : TO} {N : TN} {t v : Nat} (h : MV J O N) : MV (sI J 332 t (nI v)) O (upN N t v) := by
  refine ⟨h.1, fun t' ht' => ?_⟩
  by_cases e : t' = t
  · subst e; rw [upN_s, sI_s]
  · rw [upN_o N e, sI_k J (nI v) e]; exact h.2 t' ht'
theorem MV_fr {J J' : TI} {O : TO} {N : TN} (h : MV J O N) (e : J' 332 = J 332) : MV J' O N := ⟨h.1, fun t ht => by rw [e]; exact h.2 t ht⟩
theorem RW_fr {I I' : TI} {wh e : Nat} {N : TN} (h : RW I wh e N) (hI : ∀ a, wh ≤ a → a < wh + 134 → I' a = I a) : RW I' wh e N := by
  obtain ⟨h1, h2, h3, h4⟩ := h
  refine ⟨fun t ht => ?_, ?_, h3, fun k hk u hu => ?_⟩
  · have hr := la_rng (wh := wh) ht
    rw [hI _ hr.1 hr.2.1]; exact h1 t ht
  · rw [hI _ (by omega) (by omega)]; exact h2
  · have hs := sa_le u
    have hm := Nat.mod_lt (e + k) (show 30 > 0 by omega)
    rw [hI _ (by omega) (by omega)]; exact h4 k hk u hu
theorem RW_WV {I : TI} {O : TO} {e : Nat} {N : TN} (hO : OF O) (h : RW I 2 e N) : WV I O 3 4 5 6 7 8 N := by
  obtain ⟨h, -⟩ := h
  have g : ∀ t, t < 231 → I (la 2 t) (lk t) = nI (N t) := fun t ht => h t (Or.inl ht)
  refine ⟨⟨o_3_0 hO, o_3_1 hO, o_3_2 hO, o_6_0 hO, o_6_1 hO⟩, g 0 (by omega), g 1 (by omega), fun r hr => ?_, fun r p hr hp => ?_, fun r p hr hp => ?_, fun c k hc hk => ?_, g 7 (by omega), g 8 (by omega)⟩
  · have q := g (114 + r) (by omega)
    have e1 : la 2 (114 + r) = 4 := by simp (disch := omega) only [la, qL, qb, qbl, qadd, qmul, qsubm, qdm, qsub, qdiv, qcl, qlt, qle, qeq, nltT, nltF, nleT, nleF, neqT, neqF, or_false, false_or, or_true, true_or, or_self, and_true, true_and, and_false, false_and, and_self, not_true_eq_false, not_false_eq_true, ↓reduceIte]
    have e2 : lk (114 + r) = r := by simp (disch := omega) only [lk, qL, qb, qbl, qadd, qmul, qsubm, qdm, qsub, qdiv, qcl, qlt, qle, qeq, nltT, nltF, nleT, nleF, neqT, neqF, or_false, false_or, or_true, true_or, or_self, and_true, true_and, and_false, false_and, and_self, not_true_eq_false, not_false_eq_true, ↓reduceIte] <;> omega
    rw [e1, e2] at q; exact q
  · have q := g (119 + 16 * r + p) (by omega)
    have e1 : la 2 (119 + 16 * r + p) = 5 := by simp (disch := omega) only [la, qL, qb, qbl, qadd, qmul, qsubm, qdm, qsub, qdiv, qcl, qlt, qle, qeq, nltT, nltF, nleT, nleF, neqT, neqF, or_false, false_or, or_true, true_or, or_self, and_true, true_and, and_false, false_and, and_self, not_true_eq_false, not_false_eq_true, ↓reduceIte]
    have e2 : lk (119 + 16 * r + p) = r * 16 + p := by simp (disch := omega) only [lk, qL, qb, qbl, qadd, qmul, qsubm, qdm, qsub, qdiv, qcl, qlt, qle, qeq, nltT, nltF, nleT, nleF, neqT, neqF, or_false, false_or, or_true, true_or, or_self, and_true, true_and, and_false, false_and, and_self, not_true_eq_false, not_false_eq_true, ↓reduceIte] <;> omega
    rw [e1, e2] at q; exact q
  · have q := g (10 + 16 * r + p) (by omega)
    have e1 : la 2 (10 + 16 * r + p) = 7 := by simp (disch := omega) only [la, qL, qb, qbl, qadd, qmul, qsubm, qdm, qsub, qdiv, qcl, qlt, qle, qeq, nltT, nltF, nleT, nleF, neqT, neqF, or_false, false_or, or_true, true_or, or_self, and_true, true_and, and_false, false_and, and_self, not_true_eq_false, not_false_eq_true, ↓reduceIte]
    have e2 : lk (10 + 16 * r + p) = r * 16 + p := by simp (disch := omega) only [lk, qL, qb, qbl, qadd, qmul, qsubm, qdm, qsub, qdiv, qcl, qlt, qle, qeq, nltT, nltF, nleT, nleF, neqT, neqF, or_false, false_or, or_true, true_or, or_self, and_true, true_and, and_false, false_and, and_self, not_true_eq_false, not_false_eq_true, ↓reduceIte] <;> omega
    rw [e1, e2] at q; exact q
  · have q := g (90 + 6 * c + k) (by omega)
    have e1 : la 2 (90 + 6 * c + k) = 8 := by simp (disch := omega) only [la, qL, qb, qbl, qadd, qmul, qsubm, qdm, qsub, qdiv, qcl, qlt, qle, qeq, nltT, nltF, nleT, nleF, neqT, neqF, or_false, false_or, or_true, true_or, or_self, and_true, true_and, and_false, false_and, and_self, not_true_eq_false, not_false_eq_true, ↓reduceIte]
    have e2 : lk (90 + 6 * c + k) = c * 6 + k := by simp (disch := omega) only [lk, qL, qb, qbl, qadd, qmul, qsubm, qdm, qsub, qdiv, qcl, qlt, qle, qeq, nltT, nltF, nleT, nleF, neqT, neqF, or_false, false_or, or_true, true_or, or_self, and_true, true_and, and_false, false_and, and_self, not_true_eq_false, not_false_eq_true, ↓reduceIte] <;> omega
    rw [e1, e2] at q; exact q
