theorem flRX11_16 : FL RX11 16 11 1 := ⟨(RX11, TX11, 11), rfl, by decide, tb_i 357 (by decide +kernel)⟩
theorem flRX11_282 : FL RX11 282 9 6 := ⟨(RX9, TX9, 10), rfl, by decide, tb_i 140 (by decide +kernel)⟩
theorem flRX11_285 : FL RX11 285 9 2 := ⟨(RX9, TX9, 10), rfl, by decide, tb_i 131 (by decide +kernel)⟩
theorem flRX11_300 : FL RX11 300 2 8 := ⟨(RX2, TX2, 10), rfl, by decide, tb_i 244 (by decide +kernel)⟩
theorem flRX11_303 : FL RX11 303 2 9 := ⟨(RX2, TX2, 10), rfl, by decide, tb_i 246 (by decide +kernel)⟩
theorem flRX11_355 : FL RX11 355 9 7 := ⟨(RX9, TX9, 10), rfl, by decide, tb_i 142 (by decide +kernel)⟩
theorem flRX11_358 : FL RX11 358 9 3 := ⟨(RX9, TX9, 10), rfl, by decide, tb_i 133 (by decide +kernel)⟩
theorem flRX11_361 : FL RX11 361 9 4 := ⟨(RX9, TX9, 10), rfl, by decide, tb_i 135 (by decide +kernel)⟩
theorem flRX11_364 : FL RX11 364 9 5 := ⟨(RX9, TX9, 10), rfl, by decide, tb_i 137 (by decide +kernel)⟩
theorem flRX11_382 : FL RX11 382 0 2 := ⟨(RX0, TX0, 3), rfl, by decide, tb_i 116 (by decide +kernel)⟩
theorem lkRX11_288 : Cond.methodLink RX11 288 yX2_fitting ∈ lw_tbl := tb_i 1052 (by decide +kernel)
theorem lkRX11_292 : Cond.methodLink RX11 292 yX2_closest ∈ lw_tbl := tb_i 1064 (by decide +kernel)
theorem lkRX11_296 : Cond.methodLink RX11 296 yX2_findMotif ∈ lw_tbl := tb_i 1072 (by decide +kernel)
theorem lkRX11_306 : Cond.methodLink RX11 306 yX2_findMirror ∈ lw_tbl := tb_i 1084 (by decide +kernel)
theorem lkRX11_309 : Cond.methodLink RX11 309 yX2_clashes ∈ lw_tbl := tb_i 1096 (by decide +kernel)
theorem lkRX11_313 : Cond.methodLink RX11 313 yX11_canStand ∈ lw_tbl := tb_i 1108 (by decide +kernel)
theorem lkRX11_316 : Cond.methodLink RX11 316 yJ6_bitCount_0f7a4 ∈ lw_tbl := tb_i 1112 (by decide +kernel)
theorem lkRX11_321 : Cond.methodLink RX11 321 yX2_buildStair ∈ lw_tbl := tb_i 1118 (by decide +kernel)
theorem lkRX11_325 : Cond.methodLink RX11 325 yX2_stairRoll ∈ lw_tbl := tb_i 1135 (by decide +kernel)
theorem lkRX11_330 : Cond.methodLink RX11 330 yX2_waysToFill ∈ lw_tbl := tb_i 1144 (by decide +kernel)
theorem lkRX11_334 : Cond.methodLink RX11 334 yX6_teach ∈ lw_tbl := tb_i 1162 (by decide +kernel)
theorem lkRX11_337 : Cond.methodLink RX11 337 yX6_timesOf ∈ lw_tbl := tb_i 1186 (by decide +kernel)
theorem lkRX11_340 : Cond.methodLink RX11 340 yX6_weigh ∈ lw_tbl := tb_i 1194 (by decide +kernel)
theorem lkRX11_344 : Cond.methodLink RX11 344 yX6_outcomesFrom ∈ lw_tbl := tb_i 1209 (by decide +kernel)
theorem lkRX11_348 : Cond.methodLink RX11 348 yX11_commonDivisor ∈ lw_tbl := tb_i 1213 (by decide +kernel)
theorem lkRX11_352 : Cond.methodLink RX11 352 yX2_pieces ∈ lw_tbl := tb_i 1220 (by decide +kernel)
theorem lkRX11_367 : Cond.methodLink RX11 367 yX11_agrees ∈ lw_tbl := tb_i 1240 (by decide +kernel)
theorem lkRX11_370 : Cond.methodLink RX11 370 yX10_allWear ∈ lw_tbl := tb_i 1252 (by decide +kernel)
theorem lkRX11_373 : Cond.methodLink RX11 373 yX10_isDumb ∈ lw_tbl := tb_i 1261 (by decide +kernel)
theorem lkRX11_376 : Cond.methodLink RX11 376 yX3_pagesOf ∈ lw_tbl := tb_i 1269 (by decide +kernel)
theorem lkRX11_379 : Cond.methodLink RX11 379 yX9_take ∈ lw_tbl := tb_i 1278 (by decide +kernel)
theorem dX11_phrase_0 : decode cX11_phrase 0 = .ok (.iload_n 1, 1) := by decide +kernel
theorem dX11_phrase_1 : decode cX11_phrase 1 = .ok (.iconst (-1), 1) := by decide +kernel
theorem dX11_phrase_2 : decode cX11_phrase 2 = .ok (.if_icmp .ne 13, 3) := by decide +kernel
theorem dX11_phrase_5 : decode cX11_phrase 5 = .ok (.aload_n 0, 1) := by decide +kernel
theorem dX11_phrase_6 : decode cX11_phrase 6 = .ok (.getfield 10, 3) := by decide +kernel
theorem dX11_phrase_9 : decode cX11_phrase 9 = .ok (.iconst 0, 1) := by decide +kernel
theorem dX11_phrase_10 : decode cX11_phrase 10 = .ok (.putfield 282, 3) := by decide +kernel
theorem dX11_phrase_13 : decode cX11_phrase 13 = .ok (.iconst 0, 1) := by decide +kernel
theorem dX11_phrase_14 : decode cX11_phrase 14 = .ok (.ireturn, 1) := by decide +kernel
theorem dX11_phrase_15 : decode cX11_phrase 15 = .ok (.iload_n 1, 1) := by decide +kernel
theorem dX11_phrase_16 : decode cX11_phrase 16 = .ok (.ifCond .lt 21, 3) := by decide +kernel
theorem dX11_phrase_19 : decode cX11_phrase 19 = .ok (.iload_n 1, 1) := by decide +kernel
theorem dX11_phrase_20 : decode cX11_phrase 20 = .ok (.bipush 6, 2) := by decide +kernel
theorem dX11_phrase_22 : decode cX11_phrase 22 = .ok (.if_icmp .ge 15, 3) := by decide +kernel
theorem dX11_phrase_25 : decode cX11_phrase 25 = .ok (.aload_n 0, 1) := by decide +kernel
theorem dX11_phrase_26 : decode cX11_phrase 26 = .ok (.getfield 10, 3) := by decide +kernel
theorem dX11_phrase_29 : decode cX11_phrase 29 = .ok (.getfield 282, 3) := by decide +kernel
theorem dX11_phrase_32 : decode cX11_phrase 32 = .ok (.bipush 8, 2) := by decide +kernel
theorem dX11_phrase_34 : decode cX11_phrase 34 = .ok (.if_icmp .lt 6, 3) := by decide +kernel
theorem dX11_phrase_37 : decode cX11_phrase 37 = .ok (.bipush (-2), 2) := by decide +kernel
theorem dX11_phrase_39 : decode cX11_phrase 39 = .ok (.ireturn, 1) := by decide +kernel
theorem dX11_phrase_40 : decode cX11_phrase 40 = .ok (.aload_n 0, 1) := by decide +kernel
theorem dX11_phrase_41 : decode cX11_phrase 41 = .ok (.getfield 10, 3) := by decide +kernel
theorem dX11_phrase_44 : decode cX11_phrase 44 = .ok (.getfield 285, 3) := by decide +kernel
theorem dX11_phrase_47 : decode cX11_phrase 47 = .ok (.aload_n 0, 1) := by decide +kernel
theorem dX11_phrase_48 : decode cX11_phrase 48 = .ok (.getfield 10, 3) := by decide +kernel
theorem dX11_phrase_51 : decode cX11_phrase 51 = .ok (.getfield 282, 3) := by decide +kernel
theorem dX11_phrase_54 : decode cX11_phrase 54 = .ok (.iload_n 1, 1) := by decide +kernel
theorem dX11_phrase_55 : decode cX11_phrase 55 = .ok (.iastore, 1) := by decide +kernel
theorem dX11_phrase_56 : decode cX11_phrase 56 = .ok (.aload_n 0, 1) := by decide +kernel
theorem dX11_phrase_57 : decode cX11_phrase 57 = .ok (.getfield 10, 3) := by decide +kernel
theorem dX11_phrase_60 : decode cX11_phrase 60 = .ok (.dup, 1) := by decide +kernel
theorem dX11_phrase_61 : decode cX11_phrase 61 = .ok (.getfield 282, 3) := by decide +kernel
theorem dX11_phrase_64 : decode cX11_phrase 64 = .ok (.iconst 1, 1) := by decide +kernel
theorem dX11_phrase_65 : decode cX11_phrase 65 = .ok (.iadd, 1) := by decide +kernel
theorem dX11_phrase_66 : decode cX11_phrase 66 = .ok (.putfield 282, 3) := by decide +kernel
theorem dX11_phrase_69 : decode cX11_phrase 69 = .ok (.aload_n 0, 1) := by decide +kernel
theorem dX11_phrase_70 : decode cX11_phrase 70 = .ok (.getfield 10, 3) := by decide +kernel
theorem dX11_phrase_73 : decode cX11_phrase 73 = .ok (.getfield 282, 3) := by decide +kernel
theorem dX11_phrase_76 : decode cX11_phrase 76 = .ok (.ireturn, 1) := by decide +kernel
def m11_phrase : pMT := (yX11_phrase, cX11_phrase, 2, some .int)
theorem mo11_phrase : mOK m11_phrase 1 := ⟨tb_i 1047 (by decide +kernel), wi_RX11, ⟨wn_RX11.1, wn_RX11.2, by decide +kernel⟩, by decide, plainFor_of_name wp_RX11⟩
theorem mv11_phrase : mV m11_phrase := ⟨tb_i 1045 (by decide +kernel), tb_i 1046 (by decide +kernel)⟩
def f11_phrase (I : (Nat → Nat → Int32)) (O : (Nat → Nat → Option Nat)) (a0 : Nat) (x1 : Int32) : Option (Int32 × (Nat → Nat → Int32)) := (if x1 = (-1 : Int32) then bl (sI I (rO O a0 0) 6 (0 : Int32)) fun I11 => some ((0 : Int32), I11) else (if x1 < 0 then some (((-2) : Int32), I) else (if (6 : Int32) ≤ x1 then some (((-2) : Int32), I) else (if (I (rO O a0 0) 6) < (8 : Int32) then (if (I (rO O a0 0) 6) < 0 ∨ 8 ≤ (I (rO O a0 0) 6).toNatClampNeg then none else bl (sI I (rO O (rO O a0 0) 2) (I (rO O a0 0) 6).toNatClampNeg x1) fun I8 => bl (sI I8 (rO O a0 0) 6 ((I8 (rO O a0 0) 6) + 1)) fun I9 => some ((I9 (rO O a0 0) 6), I9)) else some (((-2) : Int32), I)))))
set_option maxHeartbeats 4000000 in
set_option maxRecDepth 20000 in
theorem o11_phrase {g : pG} {Qx : Option Value → pW → Prop} {Z : pZ} {I : (Nat → Nat → Int32)} {L : (Nat → Nat → Int64)} {O : (Nat → Nat → Option Nat)} {a0 : Nat} {x1 : Int32} {res : Int32 × (Nat → Nat → Int32)} (d : Nat) (hW : WT Z O) (hZ0 : Z[a0]? = some (11, 11)) (h : f11_phrase I O a0 x1 = some res) (hQ : Qx (some (.int res.1)) (Z, res.2, L, O)) : Ok g (d + 2, RX11, cX11_phrase, 2, false, 0, 0, Z.length, pSl Z) Qx 0 [(0, .ref a0), (1, .int x1)] [] (Z, I, L, O) := by
  unfold f11_phrase at h
  refine ok_iload_n dX11_phrase_0 1 rfl ?_
  refine ok_iconst (v := (-1)) dX11_phrase_1 (by decide) ?_
  refine ok_icmp_ne (t := 15) dX11_phrase_2 (by decide) (fun hc1 => ?_) (fun hc1 => ?_)
  · have h := (if_neg hc1).symm.trans h
    refine ok_iload_n dX11_phrase_15 1 rfl ?_
    refine ok_if_lt (t := 37) dX11_phrase_16 (by decide) (fun hc2 => ?_) (fun hc2 => ?_)
    · have h := (if_pos hc2).symm.trans h
      refine ok_bipush (v := (-2)) dX11_phrase_37 (by decide) ?_
      cases h
      exact ok_iret dX11_phrase_39 hQ
    · have h := (if_neg hc2).symm.trans h
      refine ok_iload_n dX11_phrase_19 1 rfl ?_
      refine ok_bipush (v := 6) dX11_phrase_20 (by decide) ?_
      refine ok_icmp_ge (t := 37) dX11_phrase_22 (by decide) (fun hc3 => ?_) (fun hc3 => ?_)
      · have h := (if_pos hc3).symm.trans h
        refine ok_bipush (v := (-2)) dX11_phrase_37 (by decide) ?_
        cases h
        exact ok_iret dX11_phrase_39 hQ
      · have h := (if_neg hc3).symm.trans h
        refine ok_aload_n dX11_phrase_25 0 rfl ?_
        have hT4 : Z[(rO O a0 0)]? = some (9, 10) := (wt_f (ci := 11) (k := 0) hW hZ0 rfl).2
        refine ok_getR (ci := 11) (k := 0) dX11_phrase_26 flRX11_10 rfl hW hZ0 (by decide) ?_
        refine ok_getI (ci := 9) (k := 6) dX11_phrase_29 flRX11_282 rfl hT4 (by decide) ?_
        refine ok_bipush (v := 8) dX11_phrase_32 (by decide) ?_
        refine ok_icmp_lt (t := 40) dX11_phrase_34 (by decide) (fun hc5 => ?_) (fun hc5 => ?_)
        · have h := (if_pos hc5).symm.trans h
          refine ok_aload_n dX11_phrase_40 0 rfl ?_
          refine ok_getR (ci := 11) (k := 0) dX11_phrase_41 flRX11_10 rfl hW hZ0 (by decide) ?_
          have hT6 : Z[(rO O (rO O a0 0) 2)]? = some (13, 8) := (wt_f (ci := 9) (k := 2) hW hT4 rfl).2
          refine ok_getR (ci := 9) (k := 2) dX11_phrase_44 flRX11_285 rfl hW hT4 (by decide) ?_
          refine ok_aload_n dX11_phrase_47 0 rfl ?_
          refine ok_getR (ci := 11) (k := 0) dX11_phrase_48 flRX11_10 rfl hW hZ0 (by decide) ?_
          refine ok_getI (ci := 9) (k := 6) dX11_phrase_51 flRX11_282 rfl hT4 (by decide) ?_
          refine ok_iload_n dX11_phrase_54 1 rfl ?_
          obtain ⟨hg7, h⟩ := gd h
          obtain ⟨I8, eI8, h⟩ := blE h
          refine ok_iast3 dX11_phrase_55 hT6 hg7 rfl eI8 ?_
          refine ok_aload_n dX11_phrase_56 0 rfl ?_
          refine ok_getR (ci := 11) (k := 0) dX11_phrase_57 flRX11_10 rfl hW hZ0 (by decide) ?_
          refine ok_dup dX11_phrase_60 rfl ?_
          refine ok_getI (ci := 9) (k := 6) dX11_phrase_61 flRX11_282 rfl hT4 (by decide) ?_
          refine ok_iconst (v := 1) dX11_phrase_64 (by decide) ?_
          refine ok_iadd dX11_phrase_65 ?_
          obtain ⟨I9, eI9, h⟩ := blE h
          refine ok_putI2 (ci := 9) (k := 6) dX11_phrase_66 flRX11_282 rfl (Or.inl rfl) hT4 (by decide) eI9 ?_
          refine ok_aload_n dX11_phrase_69 0 rfl ?_
          refine ok_getR (ci := 11) (k := 0) dX11_phrase_70 flRX11_10 rfl hW hZ0 (by decide) ?_
          refine ok_getI (ci := 9) (k := 6) dX11_phrase_73 flRX11_282 rfl hT4 (by decide) ?_
          cases h
          exact ok_iret dX11_phrase_76 hQ
        · have h := (if_neg hc5).symm.trans h
          refine ok_bipush (v := (-2)) dX11_phrase_37 (by decide) ?_
          cases h
          exact ok_iret dX11_phrase_39 hQ
  · have h := (if_pos hc1).symm.trans h
    refine ok_aload_n dX11_phrase_5 0 rfl ?_
    have hT10 : Z[(rO O a0 0)]? = some (9, 10) := (wt_f (ci := 11) (k := 0) hW hZ0 rfl).2
    refine ok_getR (ci := 11) (k := 0) dX11_phrase_6 flRX11_10 rfl hW hZ0 (by decide) ?_
    refine ok_iconst (v := 0) dX11_phrase_9 (by decide) ?_
    obtain ⟨I11, eI11, h⟩ := blE h
    refine ok_putI2 (ci := 9) (k := 6) dX11_phrase_10 flRX11_282 rfl (Or.inl rfl) hT10 (by decide) eI11 ?_
    refine ok_iconst (v := 0) dX11_phrase_13 (by decide) ?_
    cases h
    exact ok_iret dX11_phrase_14 hQ
theorem k11_phrase {g : pG} {Q : Option Value → pW → Prop} {Z : pZ} {I : (Nat → Nat → Int32)} {L : (Nat → Nat → Int64)} {O : (Nat → Nat → Option Nat)} {a0 : Nat} {x1 : Int32} {res : Int32 × (Nat → Nat → Int32)} (d : Nat) (hW : WT Z O) (hZ0 : Z[a0]? = some (11, 11)) (h : f11_phrase I O a0 x1 = some res) (hQ : Q (some (.int res.1)) (Z, res.2, L, O)) : CT g (d + 2) m11_phrase 0 0 [.ref a0, .int x1] (Z, I, L, O) Q :=
  ct_of_ok (mt := m11_phrase) (ini := false) mo11_phrase.2.2.2.2 (fun h => by cases h) (Nat.le_of_ble_eq_true rfl) (o11_phrase d hW hZ0 h ⟨trivial, hQ, rfl, rfl⟩)
theorem dX11_fits_0 : decode cX11_fits 0 = .ok (.aload_n 0, 1) := by decide +kernel
theorem dX11_fits_1 : decode cX11_fits 1 = .ok (.getfield 10, 3) := by decide +kernel
theorem dX11_fits_4 : decode cX11_fits 4 = .ok (.getfield 79, 3) := by decide +kernel
theorem dX11_fits_7 : decode cX11_fits 7 = .ok (.iload_n 1, 1) := by decide +kernel
theorem dX11_fits_8 : decode cX11_fits 8 = .ok (.invokevirtual 152, 3) := by decide +kernel
theorem dX11_fits_11 : decode cX11_fits 11 = .ok (.ifCond .eq 13, 3) := by decide +kernel
theorem dX11_fits_14 : decode cX11_fits 14 = .ok (.iload_n 2, 1) := by decide +kernel
theorem dX11_fits_15 : decode cX11_fits 15 = .ok (.ifCond .lt 9, 3) := by decide +kernel
theorem dX11_fits_18 : decode cX11_fits 18 = .ok (.iload_n 2, 1) := by decide +kernel
theorem dX11_fits_19 : decode cX11_fits 19 = .ok (.bipush 8, 2) := by decide +kernel
theorem dX11_fits_21 : decode cX11_fits 21 = .ok (.if_icmp .le 5, 3) := by decide +kernel
theorem dX11_fits_24 : decode cX11_fits 24 = .ok (.iconst (-1), 1) := by decide +kernel
theorem dX11_fits_25 : decode cX11_fits 25 = .ok (.ireturn, 1) := by decide +kernel
theorem dX11_fits_26 : decode cX11_fits 26 = .ok (.aload_n 0, 1) := by decide +kernel
theorem dX11_fits_27 : decode cX11_fits 27 = .ok (.getfield 58, 3) := by decide +kernel
theorem dX11_fits_30 : decode cX11_fits 30 = .ok (.aload_n 0, 1) := by decide +kernel
theorem dX11_fits_31 : decode cX11_fits 31 = .ok (.getfield 10, 3) := by decide +kernel
theorem dX11_fits_34 : decode cX11_fits 34 = .ok (.iload_n 1, 1) := by decide +kernel
theorem dX11_fits_35 : decode cX11_fits 35 = .ok (.iload_n 2, 1) := by decide +kernel
theorem dX11_fits_36 : decode cX11_fits 36 = .ok (.invokevirtual 288, 3) := by decide +kernel
theorem dX11_fits_39 : decode cX11_fits 39 = .ok (.ireturn, 1) := by decide +kernel
def m11_fits : pMT := (yX11_fits, cX11_fits, 3, some .int)
theorem mo11_fits : mOK m11_fits 2 := ⟨tb_i 1051 (by decide +kernel), wi_RX11, ⟨wn_RX11.1, wn_RX11.2, by decide +kernel⟩, by decide, plainFor_of_name wp_RX11⟩
theorem mv11_fits : mV m11_fits := ⟨tb_i 1049 (by decide +kernel), tb_i 1050 (by decide +kernel)⟩
def f11_fits (n : Nat) (I : (Nat → Nat → Int32)) (O : (Nat → Nat → Option Nat)) (a0 : Nat) (x1 : Int32) (x2 : Int32) : Option (Int32 × (Nat → Nat → Int32)) := (f10_hasRoll I (rO O (rO O a0 0) 0) x1).bind fun r3 => (if r3 = 0 then some (((-1) : Int32), I) else (if x2 < 0 then some (((-1) : Int32), I) else (if x2 ≤ (8 : Int32) then (f2_fitting n I O (rO O a0 8) (rO O a0 0) x1 x2).bind fun r9 => some (r9.1, r9.2) else some (((-1) : Int32), I))))
set_option maxHeartbeats 4000000 in
set_option maxRecDepth 20000 in
theorem o11_fits {g : pG} {Qx : Option Value → pW → Prop} {Z : pZ} {I : (Nat → Nat → Int32)} {L : (Nat → Nat → Int64)} {O : (Nat → Nat → Option Nat)} {n : Nat} {a0 : Nat} {x1 : Int32} {x2 : Int32} {res : Int32 × (Nat → Nat → Int32)} (d : Nat) (hW : WT Z O) (hZ0 : Z[a0]? = some (11, 11)) (h : f11_fits n I O a0 x1 x2 = some res) (hQ : Qx (some (.int res.1)) (Z, res.2, L, O)) : Ok g (d + 6, RX11, cX11_fits, 3, false, 0, 0, Z.length, pSl Z) Qx 0 [(0, .ref a0), (1, .int x1), (2, .int x2)] [] (Z, I, L, O) := by
  unfold f11_fits at h
  refine ok_aload_n dX11_fits_0 0 rfl ?_
  have hT1 : Z[(rO O a0 0)]? = some (9, 10) := (wt_f (ci := 11) (k := 0) hW hZ0 rfl).2
  refine ok_getR (ci := 11) (k := 0) dX11_fits_1 flRX11_10 rfl hW hZ0 (by decide) ?_
  have hT2 : Z[(rO O (rO O a0 0) 0)]? = some (10, 5) := (wt_f (ci := 9) (k := 0) hW hT1 rfl).2
  refine ok_getR (ci := 9) (k := 0) dX11_fits_4 flRX11_79 rfl hW hT1 (by decide) ?_
  refine ok_iload_n dX11_fits_7 1 rfl ?_
  obtain ⟨r3, hr4, h⟩ := bd h
  refine ok_callV (d := ((d + 3) + 2)) (mt := m10_hasRoll) (mc := 0) (ms := 0) (As := [.int x1]) (r := []) dX11_fits_8 mo10_hasRoll mv10_hasRoll lkRX11_152 rfl hT2 (q := (RX10, TX10, 5)) rfl rfl rfl (Nat.le_of_ble_eq_true rfl) (by show _ + 1 ≤ d + _; omega) (Nat.le_refl _) (Nat.le_refl _) (pRt_mono ?_)
  refine k10_hasRoll (d + 3) hW hT2 hr4 ?_
  intro hbr3
  show Ok g _ Qx 11 [(0, .ref a0), (1, .int x1), (2, .int x2)] [.int r3] (Z, I, L, O)
  refine ok_if_eq (t := 24) dX11_fits_11 (by decide) (fun hc5 => ?_) (fun hc5 => ?_)
  · have h := (if_pos hc5).symm.trans h
    refine ok_iconst (v := (-1)) dX11_fits_24 (by decide) ?_
    cases h
    exact ok_iret dX11_fits_25 hQ
  · have h := (if_neg hc5).symm.trans h
    refine ok_iload_n dX11_fits_14 2 rfl ?_
    refine ok_if_lt (t := 24) dX11_fits_15 (by decide) (fun hc6 => ?_) (fun hc6 => ?_)
    · have h := (if_pos hc6).symm.trans h
      refine ok_iconst (v := (-1)) dX11_fits_24 (by decide) ?_
      cases h
      exact ok_iret dX11_fits_25 hQ
    · have h := (if_neg hc6).symm.trans h
      refine ok_iload_n dX11_fits_18 2 rfl ?_
      refine ok_bipush (v := 8) dX11_fits_19 (by decide) ?_
      refine ok_icmp_le (t := 26) dX11_fits_21 (by decide) (fun hc7 => ?_) (fun hc7 => ?_)
      · have h := (if_pos hc7).symm.trans h
        refine ok_aload_n dX11_fits_26 0 rfl ?_
        have hT8 : Z[(rO O a0 8)]? = some (2, 10) := (wt_f (ci := 11) (k := 8) hW hZ0 rfl).2
        refine ok_getR (ci := 11) (k := 8) dX11_fits_27 flRX11_58 rfl hW hZ0 (by decide) ?_
        refine ok_aload_n dX11_fits_30 0 rfl ?_
        refine ok_getR (ci := 11) (k := 0) dX11_fits_31 flRX11_10 rfl hW hZ0 (by decide) ?_
        refine ok_iload_n dX11_fits_34 1 rfl ?_
        refine ok_iload_n dX11_fits_35 2 rfl ?_
        obtain ⟨r9, hr10, h⟩ := bd h
        refine ok_callV (d := ((d + 0) + 5)) (mt := m2_fitting) (mc := 0) (ms := 0) (As := [.ref (rO O a0 0), .int x1, .int x2]) (r := []) dX11_fits_36 mo2_fitting mv2_fitting lkRX11_288 rfl hT8 (q := (RX2, TX2, 10)) rfl rfl rfl (Nat.le_of_ble_eq_true rfl) (by show _ + 1 ≤ d + _; omega) (Nat.le_refl _) (Nat.le_refl _) (pRt_mono ?_)
        refine k2_fitting (d + 0) hW hT8 hT1 hr10 ?_
        intro _
        show Ok g _ Qx 39 [(0, .ref a0), (1, .int x1), (2, .int x2)] [.int r9.1] (Z, r9.2, L, O)
        cases h
        exact ok_iret dX11_fits_39 hQ
      · have h := (if_neg hc7).symm.trans h
        refine ok_iconst (v := (-1)) dX11_fits_24 (by decide) ?_
        cases h
        exact ok_iret dX11_fits_25 hQ
theorem k11_fits {g : pG} {Q : Option Value → pW → Prop} {Z : pZ} {I : (Nat → Nat → Int32)} {L : (Nat → Nat → Int64)} {O : (Nat → Nat → Option Nat)} {n : Nat} {a0 : Nat} {x1 : Int32} {x2 : Int32} {res : Int32 × (Nat → Nat → Int32)} (d : Nat) (hW : WT Z O) (hZ0 : Z[a0]? = some (11, 11)) (h : f11_fits n I O a0 x1 x2 = some res) (hQ : Q (some (.int res.1)) (Z, res.2, L, O)) : CT g (d + 6) m11_fits 0 0 [.ref a0, .int x1, .int x2] (Z, I, L, O) Q :=
  ct_of_ok (mt := m11_fits) (ini := false) mo11_fits.2.2.2.2 (fun h => by cases h) (Nat.le_of_ble_eq_true rfl) (o11_fits d hW hZ0 h ⟨trivial, hQ, rfl, rfl⟩)
theorem dX11_nearest_0 : decode cX11_nearest 0 = .ok (.aload_n 0, 1) := by decide +kernel
theorem dX11_nearest_1 : decode cX11_nearest 1 = .ok (.getfield 10, 3) := by decide +kernel
theorem dX11_nearest_4 : decode cX11_nearest 4 = .ok (.getfield 79, 3) := by decide +kernel
theorem dX11_nearest_7 : decode cX11_nearest 7 = .ok (.iload_n 1, 1) := by decide +kernel
theorem dX11_nearest_8 : decode cX11_nearest 8 = .ok (.invokevirtual 152, 3) := by decide +kernel
theorem dX11_nearest_11 : decode cX11_nearest 11 = .ok (.ifCond .eq 18, 3) := by decide +kernel
theorem dX11_nearest_14 : decode cX11_nearest 14 = .ok (.aload_n 0, 1) := by decide +kernel
theorem dX11_nearest_15 : decode cX11_nearest 15 = .ok (.getfield 58, 3) := by decide +kernel
theorem dX11_nearest_18 : decode cX11_nearest 18 = .ok (.aload_n 0, 1) := by decide +kernel
theorem dX11_nearest_19 : decode cX11_nearest 19 = .ok (.getfield 10, 3) := by decide +kernel
theorem dX11_nearest_22 : decode cX11_nearest 22 = .ok (.iload_n 1, 1) := by decide +kernel
theorem dX11_nearest_23 : decode cX11_nearest 23 = .ok (.invokevirtual 292, 3) := by decide +kernel
theorem dX11_nearest_26 : decode cX11_nearest 26 = .ok (.goto 4, 3) := by decide +kernel
theorem dX11_nearest_29 : decode cX11_nearest 29 = .ok (.iconst (-1), 1) := by decide +kernel
theorem dX11_nearest_30 : decode cX11_nearest 30 = .ok (.ireturn, 1) := by decide +kernel
def m11_nearest : pMT := (yX11_nearest, cX11_nearest, 2, some .int)
theorem mo11_nearest : mOK m11_nearest 1 := ⟨tb_i 1063 (by decide +kernel), wi_RX11, ⟨wn_RX11.1, wn_RX11.2, by decide +kernel⟩, by decide, plainFor_of_name wp_RX11⟩
theorem mv11_nearest : mV m11_nearest := ⟨tb_i 1061 (by decide +kernel), tb_i 1062 (by decide +kernel)⟩
def f11_nearest (n : Nat) (I : (Nat → Nat → Int32)) (O : (Nat → Nat → Option Nat)) (a0 : Nat) (x1 : Int32) : Option (Int32 × (Nat → Nat → Int32)) := (f10_hasRoll I (rO O (rO O a0 0) 0) x1).bind fun r3 => (if r3 = 0 then some (((-1) : Int32), I) else (f2_closest n I O (rO O a0 8) (rO O a0 0) x1).bind fun r7 => some (r7.1, r7.2))
set_option maxHeartbeats 4000000 in
set_option maxRecDepth 20000 in
theorem o11_nearest {g : pG} {Qx : Option Value → pW → Prop} {Z : pZ} {I : (Nat → Nat → Int32)} {L : (Nat → Nat → Int64)} {O : (Nat → Nat → Option Nat)} {n : Nat} {a0 : Nat} {x1 : Int32} {res : Int32 × (Nat → Nat → Int32)} (d : Nat) (hW : WT Z O) (hZ0 : Z[a0]? = some (11, 11)) (h : f11_nearest n I O a0 x1 = some res) (hQ : Qx (some (.int res.1)) (Z, res.2, L, O)) : Ok g (d + 6, RX11, cX11_nearest, 2, false, 0, 0, Z.length, pSl Z) Qx 0 [(0, .ref a0), (1, .int x1)] [] (Z, I, L, O) := by
  unfold f11_nearest at h
  refine ok_aload_n dX11_nearest_0 0 rfl ?_
  have hT1 : Z[(rO O a0 0)]? = some (9, 10) := (wt_f (ci := 11) (k := 0) hW hZ0 rfl).2
  refine ok_getR (ci := 11) (k := 0) dX11_nearest_1 flRX11_10 rfl hW hZ0 (by decide) ?_
  have hT2 : Z[(rO O (rO O a0 0) 0)]? = some (10, 5) := (wt_f (ci := 9) (k := 0) hW hT1 rfl).2
  refine ok_getR (ci := 9) (k := 0) dX11_nearest_4 flRX11_79 rfl hW hT1 (by decide) ?_
  refine ok_iload_n dX11_nearest_7 1 rfl ?_
  obtain ⟨r3, hr4, h⟩ := bd h
  refine ok_callV (d := ((d + 3) + 2)) (mt := m10_hasRoll) (mc := 0) (ms := 0) (As := [.int x1]) (r := []) dX11_nearest_8 mo10_hasRoll mv10_hasRoll lkRX11_152 rfl hT2 (q := (RX10, TX10, 5)) rfl rfl rfl (Nat.le_of_ble_eq_true rfl) (by show _ + 1 ≤ d + _; omega) (Nat.le_refl _) (Nat.le_refl _) (pRt_mono ?_)
  refine k10_hasRoll (d + 3) hW hT2 hr4 ?_
  intro hbr3
  show Ok g _ Qx 11 [(0, .ref a0), (1, .int x1)] [.int r3] (Z, I, L, O)
  refine ok_if_eq (t := 29) dX11_nearest_11 (by decide) (fun hc5 => ?_) (fun hc5 => ?_)
  · have h := (if_pos hc5).symm.trans h
    refine ok_iconst (v := (-1)) dX11_nearest_29 (by decide) ?_
    cases h
    exact ok_iret dX11_nearest_30 hQ
  · have h := (if_neg hc5).symm.trans h
    refine ok_aload_n dX11_nearest_14 0 rfl ?_
    have hT6 : Z[(rO O a0 8)]? = some (2, 10) := (wt_f (ci := 11) (k := 8) hW hZ0 rfl).2
    refine ok_getR (ci := 11) (k := 8) dX11_nearest_15 flRX11_58 rfl hW hZ0 (by decide) ?_
    refine ok_aload_n dX11_nearest_18 0 rfl ?_
    refine ok_getR (ci := 11) (k := 0) dX11_nearest_19 flRX11_10 rfl hW hZ0 (by decide) ?_
    refine ok_iload_n dX11_nearest_22 1 rfl ?_
    obtain ⟨r7, hr8, h⟩ := bd h
    refine ok_callV (d := ((d + 0) + 5)) (mt := m2_closest) (mc := 0) (ms := 0) (As := [.ref (rO O a0 0), .int x1]) (r := []) dX11_nearest_23 mo2_closest mv2_closest lkRX11_292 rfl hT6 (q := (RX2, TX2, 10)) rfl rfl rfl (Nat.le_of_ble_eq_true rfl) (by show _ + 1 ≤ d + _; omega) (Nat.le_refl _) (Nat.le_refl _) (pRt_mono ?_)
    refine k2_closest (d + 0) hW hT6 hT1 hr8 ?_
    intro _
    show Ok g _ Qx 26 [(0, .ref a0), (1, .int x1)] [.int r7.1] (Z, r7.2, L, O)
    refine ok_goto (t := 30) dX11_nearest_26 (by decide) ?_
    cases h
    exact ok_iret dX11_nearest_30 hQ
theorem k11_nearest {g : pG} {Q : Option Value → pW → Prop} {Z : pZ} {I : (Nat → Nat → Int32)} {L : (Nat → Nat → Int64)} {O : (Nat → Nat → Option Nat)} {n : Nat} {a0 : Nat} {x1 : Int32} {res : Int32 × (Nat → Nat → Int32)} (d : Nat) (hW : WT Z O) (hZ0 : Z[a0]? = some (11, 11)) (h : f11_nearest n I O a0 x1 = some res) (hQ : Q (some (.int res.1)) (Z, res.2, L, O)) : CT g (d + 6) m11_nearest 0 0 [.ref a0, .int x1] (Z, I, L, O) Q :=
  ct_of_ok (mt := m11_nearest) (ini := false) mo11_nearest.2.2.2.2 (fun h => by cases h) (Nat.le_of_ble_eq_true rfl) (o11_nearest d hW hZ0 h ⟨trivial, hQ, rfl, rfl⟩)
theorem dX11_motif_0 : decode cX11_motif 0 = .ok (.aload_n 0, 1) := by decide +kernel
theorem dX11_motif_1 : decode cX11_motif 1 = .ok (.getfield 10, 3) := by decide +kernel
theorem dX11_motif_4 : decode cX11_motif 4 = .ok (.getfield 79, 3) := by decide +kernel
theorem dX11_motif_7 : decode cX11_motif 7 = .ok (.iload_n 1, 1) := by decide +kernel
theorem dX11_motif_8 : decode cX11_motif 8 = .ok (.invokevirtual 152, 3) := by decide +kernel
theorem dX11_motif_11 : decode cX11_motif 11 = .ok (.ifCond .ne 6, 3) := by decide +kernel
theorem dX11_motif_14 : decode cX11_motif 14 = .ok (.bipush (-2), 2) := by decide +kernel
theorem dX11_motif_16 : decode cX11_motif 16 = .ok (.ireturn, 1) := by decide +kernel
theorem dX11_motif_17 : decode cX11_motif 17 = .ok (.aload_n 0, 1) := by decide +kernel
theorem dX11_motif_18 : decode cX11_motif 18 = .ok (.getfield 58, 3) := by decide +kernel
theorem dX11_motif_21 : decode cX11_motif 21 = .ok (.aload_n 0, 1) := by decide +kernel
theorem dX11_motif_22 : decode cX11_motif 22 = .ok (.getfield 10, 3) := by decide +kernel
theorem dX11_motif_25 : decode cX11_motif 25 = .ok (.getfield 79, 3) := by decide +kernel
theorem dX11_motif_28 : decode cX11_motif 28 = .ok (.iload_n 1, 1) := by decide +kernel
theorem dX11_motif_29 : decode cX11_motif 29 = .ok (.invokevirtual 296, 3) := by decide +kernel
theorem dX11_motif_32 : decode cX11_motif 32 = .ok (.iload_n 2, 1) := by decide +kernel
theorem dX11_motif_33 : decode cX11_motif 33 = .ok (.ifCond .eq 13, 3) := by decide +kernel
theorem dX11_motif_36 : decode cX11_motif 36 = .ok (.aload_n 0, 1) := by decide +kernel
theorem dX11_motif_37 : decode cX11_motif 37 = .ok (.getfield 58, 3) := by decide +kernel
theorem dX11_motif_40 : decode cX11_motif 40 = .ok (.getfield 300, 3) := by decide +kernel
theorem dX11_motif_43 : decode cX11_motif 43 = .ok (.goto 10, 3) := by decide +kernel
theorem dX11_motif_46 : decode cX11_motif 46 = .ok (.aload_n 0, 1) := by decide +kernel
theorem dX11_motif_47 : decode cX11_motif 47 = .ok (.getfield 58, 3) := by decide +kernel
theorem dX11_motif_50 : decode cX11_motif 50 = .ok (.getfield 303, 3) := by decide +kernel
theorem dX11_motif_53 : decode cX11_motif 53 = .ok (.ireturn, 1) := by decide +kernel
def m11_motif : pMT := (yX11_motif, cX11_motif, 3, some .int)
theorem mo11_motif : mOK m11_motif 2 := ⟨tb_i 1071 (by decide +kernel), wi_RX11, ⟨wn_RX11.1, wn_RX11.2, by decide +kernel⟩, by decide, plainFor_of_name wp_RX11⟩
theorem mv11_motif : mV m11_motif := ⟨tb_i 1069 (by decide +kernel), tb_i 1070 (by decide +kernel)⟩
def f11_motif (n : Nat) (I : (Nat → Nat → Int32)) (O : (Nat → Nat → Option Nat)) (a0 : Nat) (x1 : Int32) (x2 : Int32) : Option (Int32 × (Nat → Nat → Int32)) := (f10_hasRoll I (rO O (rO O a0 0) 0) x1).bind fun r3 => (if r3 = 0 then some (((-2) : Int32), I) else (f2_findMotif n I O (rO O a0 8) (rO O (rO O a0 0) 0) x1).bind fun r7 => (if x2 = 0 then some ((r7 (rO O a0 8) 9), r7) else some ((r7 (rO O a0 8) 8), r7)))
set_option maxHeartbeats 4000000 in
set_option maxRecDepth 20000 in
theorem o11_motif {g : pG} {Qx : Option Value → pW → Prop} {Z : pZ} {I : (Nat → Nat → Int32)} {L : (Nat → Nat → Int64)} {O : (Nat → Nat → Option Nat)} {n : Nat} {a0 : Nat} {x1 : Int32} {x2 : Int32} {res : Int32 × (Nat → Nat → Int32)} (d : Nat) (hW : WT Z O) (hZ0 : Z[a0]? = some (11, 11)) (h : f11_motif n I O a0 x1 x2 = some res) (hQ : Qx (some (.int res.1)) (Z, res.2, L, O)) : Ok g (d + 6, RX11, cX11_motif, 3, false, 0, 0, Z.length, pSl Z) Qx 0 [(0, .ref a0), (1, .int x1), (2, .int x2)] [] (Z, I, L, O) := by
  unfold f11_motif at h
  refine ok_aload_n dX11_motif_0 0 rfl ?_
  have hT1 : Z[(rO O a0 0)]? = some (9, 10) := (wt_f (ci := 11) (k := 0) hW hZ0 rfl).2
  refine ok_getR (ci := 11) (k := 0) dX11_motif_1 flRX11_10 rfl hW hZ0 (by decide) ?_
  have hT2 : Z[(rO O (rO O a0 0) 0)]? = some (10, 5) := (wt_f (ci := 9) (k := 0) hW hT1 rfl).2
  refine ok_getR (ci := 9) (k := 0) dX11_motif_4 flRX11_79 rfl hW hT1 (by decide) ?_
  refine ok_iload_n dX11_motif_7 1 rfl ?_
  obtain ⟨r3, hr4, h⟩ := bd h
  refine ok_callV (d := ((d + 3) + 2)) (mt := m10_hasRoll) (mc := 0) (ms := 0) (As := [.int x1]) (r := []) dX11_motif_8 mo10_hasRoll mv10_hasRoll lkRX11_152 rfl hT2 (q := (RX10, TX10, 5)) rfl rfl rfl (Nat.le_of_ble_eq_true rfl) (by show _ + 1 ≤ d + _; omega) (Nat.le_refl _) (Nat.le_refl _) (pRt_mono ?_)
  refine k10_hasRoll (d + 3) hW hT2 hr4 ?_
  intro hbr3
  show Ok g _ Qx 11 [(0, .ref a0), (1, .int x1), (2, .int x2)] [.int r3] (Z, I, L, O)
  refine ok_if_ne (t := 17) dX11_motif_11 (by decide) (fun hc5 => ?_) (fun hc5 => ?_)
  · have h := (if_neg hc5).symm.trans h
    refine ok_aload_n dX11_motif_17 0 rfl ?_
    have hT6 : Z[(rO O a0 8)]? = some (2, 10) := (wt_f (ci := 11) (k := 8) hW hZ0 rfl).2
    refine ok_getR (ci := 11) (k := 8) dX11_motif_18 flRX11_58 rfl hW hZ0 (by decide) ?_
    refine ok_aload_n dX11_motif_21 0 rfl ?_
    refine ok_getR (ci := 11) (k := 0) dX11_motif_22 flRX11_10 rfl hW hZ0 (by decide) ?_
    refine ok_getR (ci := 9) (k := 0) dX11_motif_25 flRX11_79 rfl hW hT1 (by decide) ?_
    refine ok_iload_n dX11_motif_28 1 rfl ?_
    obtain ⟨r7, hr8, h⟩ := bd h
    refine ok_callV (d := ((d + 0) + 5)) (mt := m2_findMotif) (mc := 0) (ms := 0) (As := [.ref (rO O (rO O a0 0) 0), .int x1]) (r := []) dX11_motif_29 mo2_findMotif mv2_findMotif lkRX11_296 rfl hT6 (q := (RX2, TX2, 10)) rfl rfl rfl (Nat.le_of_ble_eq_true rfl) (by show _ + 1 ≤ d + _; omega) (Nat.le_refl _) (Nat.le_refl _) (pRt_mono ?_)
    refine k2_findMotif (d + 0) hW hT6 hT2 hr8 ?_
    intro _
    show Ok g _ Qx 32 [(0, .ref a0), (1, .int x1), (2, .int x2)] [] (Z, r7, L, O)
    refine ok_iload_n dX11_motif_32 2 rfl ?_
    refine ok_if_eq (t := 46) dX11_motif_33 (by decide) (fun hc9 => ?_) (fun hc9 => ?_)
    · have h := (if_pos hc9).symm.trans h
      refine ok_aload_n dX11_motif_46 0 rfl ?_
      refine ok_getR (ci := 11) (k := 8) dX11_motif_47 flRX11_58 rfl hW hZ0 (by decide) ?_
      refine ok_getI (ci := 2) (k := 9) dX11_motif_50 flRX11_303 rfl hT6 (by decide) ?_
      cases h
      exact ok_iret dX11_motif_53 hQ
    · have h := (if_neg hc9).symm.trans h
      refine ok_aload_n dX11_motif_36 0 rfl ?_
      refine ok_getR (ci := 11) (k := 8) dX11_motif_37 flRX11_58 rfl hW hZ0 (by decide) ?_
      refine ok_getI (ci := 2) (k := 8) dX11_motif_40 flRX11_300 rfl hT6 (by decide) ?_
      refine ok_goto (t := 53) dX11_motif_43 (by decide) ?_
      cases h
      exact ok_iret dX11_motif_53 hQ
  · have h := (if_pos hc5).symm.trans h
    refine ok_bipush (v := (-2)) dX11_motif_14 (by decide) ?_
    cases h
    exact ok_iret dX11_motif_16 hQ
theorem k11_motif {g : pG} {Q : Option Value → pW → Prop} {Z : pZ} {I : (Nat → Nat → Int32)} {L : (Nat → Nat → Int64)} {O : (Nat → Nat → Option Nat)} {n : Nat} {a0 : Nat} {x1 : Int32} {x2 : Int32} {res : Int32 × (Nat → Nat → Int32)} (d : Nat) (hW : WT Z O) (hZ0 : Z[a0]? = some (11, 11)) (h : f11_motif n I O a0 x1 x2 = some res) (hQ : Q (some (.int res.1)) (Z, res.2, L, O)) : CT g (d + 6) m11_motif 0 0 [.ref a0, .int x1, .int x2] (Z, I, L, O) Q :=
  ct_of_ok (mt := m11_motif) (ini := false) mo11_motif.2.2.2.2 (fun h => by cases h) (Nat.le_of_ble_eq_true rfl) (o11_motif d hW hZ0 h ⟨trivial, hQ, rfl, rfl⟩)
theorem dX11_mirror_0 : decode cX11_mirror 0 = .ok (.aload_n 0, 1) := by decide +kernel
theorem dX11_mirror_1 : decode cX11_mirror 1 = .ok (.getfield 10, 3) := by decide +kernel
theorem dX11_mirror_4 : decode cX11_mirror 4 = .ok (.getfield 79, 3) := by decide +kernel
theorem dX11_mirror_7 : decode cX11_mirror 7 = .ok (.iload_n 1, 1) := by decide +kernel
theorem dX11_mirror_8 : decode cX11_mirror 8 = .ok (.invokevirtual 152, 3) := by decide +kernel
theorem dX11_mirror_11 : decode cX11_mirror 11 = .ok (.ifCond .ne 6, 3) := by decide +kernel
theorem dX11_mirror_14 : decode cX11_mirror 14 = .ok (.bipush (-2), 2) := by decide +kernel
theorem dX11_mirror_16 : decode cX11_mirror 16 = .ok (.ireturn, 1) := by decide +kernel
theorem dX11_mirror_17 : decode cX11_mirror 17 = .ok (.aload_n 0, 1) := by decide +kernel
theorem dX11_mirror_18 : decode cX11_mirror 18 = .ok (.getfield 58, 3) := by decide +kernel
theorem dX11_mirror_21 : decode cX11_mirror 21 = .ok (.aload_n 0, 1) := by decide +kernel
theorem dX11_mirror_22 : decode cX11_mirror 22 = .ok (.getfield 10, 3) := by decide +kernel
theorem dX11_mirror_25 : decode cX11_mirror 25 = .ok (.getfield 79, 3) := by decide +kernel
theorem dX11_mirror_28 : decode cX11_mirror 28 = .ok (.iload_n 1, 1) := by decide +kernel
theorem dX11_mirror_29 : decode cX11_mirror 29 = .ok (.invokevirtual 306, 3) := by decide +kernel
theorem dX11_mirror_32 : decode cX11_mirror 32 = .ok (.iload_n 2, 1) := by decide +kernel
theorem dX11_mirror_33 : decode cX11_mirror 33 = .ok (.ifCond .eq 13, 3) := by decide +kernel
theorem dX11_mirror_36 : decode cX11_mirror 36 = .ok (.aload_n 0, 1) := by decide +kernel
theorem dX11_mirror_37 : decode cX11_mirror 37 = .ok (.getfield 58, 3) := by decide +kernel
theorem dX11_mirror_40 : decode cX11_mirror 40 = .ok (.getfield 300, 3) := by decide +kernel
theorem dX11_mirror_43 : decode cX11_mirror 43 = .ok (.goto 10, 3) := by decide +kernel
theorem dX11_mirror_46 : decode cX11_mirror 46 = .ok (.aload_n 0, 1) := by decide +kernel
theorem dX11_mirror_47 : decode cX11_mirror 47 = .ok (.getfield 58, 3) := by decide +kernel
theorem dX11_mirror_50 : decode cX11_mirror 50 = .ok (.getfield 303, 3) := by decide +kernel
theorem dX11_mirror_53 : decode cX11_mirror 53 = .ok (.ireturn, 1) := by decide +kernel
def m11_mirror : pMT := (yX11_mirror, cX11_mirror, 3, some .int)
theorem mo11_mirror : mOK m11_mirror 2 := ⟨tb_i 1083 (by decide +kernel), wi_RX11, ⟨wn_RX11.1, wn_RX11.2, by decide +kernel⟩, by decide, plainFor_of_name wp_RX11⟩
theorem mv11_mirror : mV m11_mirror := ⟨tb_i 1081 (by decide +kernel), tb_i 1082 (by decide +kernel)⟩
def f11_mirror (n : Nat) (I : (Nat → Nat → Int32)) (O : (Nat → Nat → Option Nat)) (a0 : Nat) (x1 : Int32) (x2 : Int32) : Option (Int32 × (Nat → Nat → Int32)) := (f10_hasRoll I (rO O (rO O a0 0) 0) x1).bind fun r3 => (if r3 = 0 then some (((-2) : Int32), I) else (f2_findMirror n I O (rO O a0 8) (rO O (rO O a0 0) 0) x1).bind fun r7 => (if x2 = 0 then some ((r7 (rO O a0 8) 9), r7) else some ((r7 (rO O a0 8) 8), r7)))
set_option maxHeartbeats 4000000 in
set_option maxRecDepth 20000 in
theorem o11_mirror {g : pG} {Qx : Option Value → pW → Prop} {Z : pZ} {I : (Nat → Nat → Int32)} {L : (Nat → Nat → Int64)} {O : (Nat → Nat → Option Nat)} {n : Nat} {a0 : Nat} {x1 : Int32} {x2 : Int32} {res : Int32 × (Nat → Nat → Int32)} (d : Nat) (hW : WT Z O) (hZ0 : Z[a0]? = some (11, 11)) (h : f11_mirror n I O a0 x1 x2 = some res) (hQ : Qx (some (.int res.1)) (Z, res.2, L, O)) : Ok g (d + 6, RX11, cX11_mirror, 3, false, 0, 0, Z.length, pSl Z) Qx 0 [(0, .ref a0), (1, .int x1), (2, .int x2)] [] (Z, I, L, O) := by
  unfold f11_mirror at h
  refine ok_aload_n dX11_mirror_0 0 rfl ?_
  have hT1 : Z[(rO O a0 0)]? = some (9, 10) := (wt_f (ci := 11) (k := 0) hW hZ0 rfl).2
  refine ok_getR (ci := 11) (k := 0) dX11_mirror_1 flRX11_10 rfl hW hZ0 (by decide) ?_
  have hT2 : Z[(rO O (rO O a0 0) 0)]? = some (10, 5) := (wt_f (ci := 9) (k := 0) hW hT1 rfl).2
  refine ok_getR (ci := 9) (k := 0) dX11_mirror_4 flRX11_79 rfl hW hT1 (by decide) ?_
  refine ok_iload_n dX11_mirror_7 1 rfl ?_
  obtain ⟨r3, hr4, h⟩ := bd h
  refine ok_callV (d := ((d + 3) + 2)) (mt := m10_hasRoll) (mc := 0) (ms := 0) (As := [.int x1]) (r := []) dX11_mirror_8 mo10_hasRoll mv10_hasRoll lkRX11_152 rfl hT2 (q := (RX10, TX10, 5)) rfl rfl rfl (Nat.le_of_ble_eq_true rfl) (by show _ + 1 ≤ d + _; omega) (Nat.le_refl _) (Nat.le_refl _) (pRt_mono ?_)
  refine k10_hasRoll (d + 3) hW hT2 hr4 ?_
  intro hbr3
  show Ok g _ Qx 11 [(0, .ref a0), (1, .int x1), (2, .int x2)] [.int r3] (Z, I, L, O)
  refine ok_if_ne (t := 17) dX11_mirror_11 (by decide) (fun hc5 => ?_) (fun hc5 => ?_)
  · have h := (if_neg hc5).symm.trans h
    refine ok_aload_n dX11_mirror_17 0 rfl ?_
    have hT6 : Z[(rO O a0 8)]? = some (2, 10) := (wt_f (ci := 11) (k := 8) hW hZ0 rfl).2
    refine ok_getR (ci := 11) (k := 8) dX11_mirror_18 flRX11_58 rfl hW hZ0 (by decide) ?_
    refine ok_aload_n dX11_mirror_21 0 rfl ?_
    refine ok_getR (ci := 11) (k := 0) dX11_mirror_22 flRX11_10 rfl hW hZ0 (by decide) ?_
    refine ok_getR (ci := 9) (k := 0) dX11_mirror_25 flRX11_79 rfl hW hT1 (by decide) ?_
    refine ok_iload_n dX11_mirror_28 1 rfl ?_
    obtain ⟨r7, hr8, h⟩ := bd h
    refine ok_callV (d := ((d + 0) + 5)) (mt := m2_findMirror) (mc := 0) (ms := 0) (As := [.ref (rO O (rO O a0 0) 0), .int x1]) (r := []) dX11_mirror_29 mo2_findMirror mv2_findMirror lkRX11_306 rfl hT6 (q := (RX2, TX2, 10)) rfl rfl rfl (Nat.le_of_ble_eq_true rfl) (by show _ + 1 ≤ d + _; omega) (Nat.le_refl _) (Nat.le_refl _) (pRt_mono ?_)
    refine k2_findMirror (d + 0) hW hT6 hT2 hr8 ?_
    intro _
    show Ok g _ Qx 32 [(0, .ref a0), (1, .int x1), (2, .int x2)] [] (Z, r7, L, O)
    refine ok_iload_n dX11_mirror_32 2 rfl ?_
    refine ok_if_eq (t := 46) dX11_mirror_33 (by decide) (fun hc9 => ?_) (fun hc9 => ?_)
    · have h := (if_pos hc9).symm.trans h
      refine ok_aload_n dX11_mirror_46 0 rfl ?_
      refine ok_getR (ci := 11) (k := 8) dX11_mirror_47 flRX11_58 rfl hW hZ0 (by decide) ?_
      refine ok_getI (ci := 2) (k := 9) dX11_mirror_50 flRX11_303 rfl hT6 (by decide) ?_
      cases h
      exact ok_iret dX11_mirror_53 hQ
    · have h := (if_neg hc9).symm.trans h
      refine ok_aload_n dX11_mirror_36 0 rfl ?_
      refine ok_getR (ci := 11) (k := 8) dX11_mirror_37 flRX11_58 rfl hW hZ0 (by decide) ?_
      refine ok_getI (ci := 2) (k := 8) dX11_mirror_40 flRX11_300 rfl hT6 (by decide) ?_
      refine ok_goto (t := 53) dX11_mirror_43 (by decide) ?_
      cases h
      exact ok_iret dX11_mirror_53 hQ
  · have h := (if_pos hc5).symm.trans h
    refine ok_bipush (v := (-2)) dX11_mirror_14 (by decide) ?_
    cases h
    exact ok_iret dX11_mirror_16 hQ
theorem k11_mirror {g : pG} {Q : Option Value → pW → Prop} {Z : pZ} {I : (Nat → Nat → Int32)} {L : (Nat → Nat → Int64)} {O : (Nat → Nat → Option Nat)} {n : Nat} {a0 : Nat} {x1 : Int32} {x2 : Int32} {res : Int32 × (Nat → Nat → Int32)} (d : Nat) (hW : WT Z O) (hZ0 : Z[a0]? = some (11, 11)) (h : f11_mirror n I O a0 x1 x2 = some res) (hQ : Q (some (.int res.1)) (Z, res.2, L, O)) : CT g (d + 6) m11_mirror 0 0 [.ref a0, .int x1, .int x2] (Z, I, L, O) Q :=
  ct_of_ok (mt := m11_mirror) (ini := false) mo11_mirror.2.2.2.2 (fun h => by cases h) (Nat.le_of_ble_eq_true rfl) (o11_mirror d hW hZ0 h ⟨trivial, hQ, rfl, rfl⟩)
theorem dX11_clash_0 : decode cX11_clash 0 = .ok (.aload_n 0, 1) := by decide +kernel
theorem dX11_clash_1 : decode cX11_clash 1 = .ok (.getfield 10, 3) := by decide +kernel
theorem dX11_clash_4 : decode cX11_clash 4 = .ok (.getfield 79, 3) := by decide +kernel
theorem dX11_clash_7 : decode cX11_clash 7 = .ok (.iload_n 1, 1) := by decide +kernel
theorem dX11_clash_8 : decode cX11_clash 8 = .ok (.invokevirtual 152, 3) := by decide +kernel
theorem dX11_clash_11 : decode cX11_clash 11 = .ok (.ifCond .eq 27, 3) := by decide +kernel
theorem dX11_clash_14 : decode cX11_clash 14 = .ok (.aload_n 0, 1) := by decide +kernel
theorem dX11_clash_15 : decode cX11_clash 15 = .ok (.getfield 10, 3) := by decide +kernel
theorem dX11_clash_18 : decode cX11_clash 18 = .ok (.getfield 79, 3) := by decide +kernel
theorem dX11_clash_21 : decode cX11_clash 21 = .ok (.iload_n 2, 1) := by decide +kernel
theorem dX11_clash_22 : decode cX11_clash 22 = .ok (.invokevirtual 152, 3) := by decide +kernel
theorem dX11_clash_25 : decode cX11_clash 25 = .ok (.ifCond .eq 13, 3) := by decide +kernel
theorem dX11_clash_28 : decode cX11_clash 28 = .ok (.iload_n 3, 1) := by decide +kernel
theorem dX11_clash_29 : decode cX11_clash 29 = .ok (.ifCond .lt 9, 3) := by decide +kernel
theorem dX11_clash_32 : decode cX11_clash 32 = .ok (.iload_n 3, 1) := by decide +kernel
theorem dX11_clash_33 : decode cX11_clash 33 = .ok (.bipush 16, 2) := by decide +kernel
theorem dX11_clash_35 : decode cX11_clash 35 = .ok (.if_icmp .le 5, 3) := by decide +kernel
theorem dX11_clash_38 : decode cX11_clash 38 = .ok (.iconst (-1), 1) := by decide +kernel
theorem dX11_clash_39 : decode cX11_clash 39 = .ok (.ireturn, 1) := by decide +kernel
theorem dX11_clash_40 : decode cX11_clash 40 = .ok (.aload_n 0, 1) := by decide +kernel
theorem dX11_clash_41 : decode cX11_clash 41 = .ok (.getfield 58, 3) := by decide +kernel
theorem dX11_clash_44 : decode cX11_clash 44 = .ok (.aload_n 0, 1) := by decide +kernel
theorem dX11_clash_45 : decode cX11_clash 45 = .ok (.getfield 10, 3) := by decide +kernel
theorem dX11_clash_48 : decode cX11_clash 48 = .ok (.getfield 79, 3) := by decide +kernel
theorem dX11_clash_51 : decode cX11_clash 51 = .ok (.iload_n 1, 1) := by decide +kernel
theorem dX11_clash_52 : decode cX11_clash 52 = .ok (.iload_n 2, 1) := by decide +kernel
theorem dX11_clash_53 : decode cX11_clash 53 = .ok (.iload_n 3, 1) := by decide +kernel
theorem dX11_clash_54 : decode cX11_clash 54 = .ok (.invokevirtual 309, 3) := by decide +kernel
theorem dX11_clash_57 : decode cX11_clash 57 = .ok (.ireturn, 1) := by decide +kernel
def m11_clash : pMT := (yX11_clash, cX11_clash, 4, some .int)
theorem mo11_clash : mOK m11_clash 3 := ⟨tb_i 1095 (by decide +kernel), wi_RX11, ⟨wn_RX11.1, wn_RX11.2, by decide +kernel⟩, by decide, plainFor_of_name wp_RX11⟩
theorem mv11_clash : mV m11_clash := ⟨tb_i 1093 (by decide +kernel), tb_i 1094 (by decide +kernel)⟩
def f11_clash (n : Nat) (I : (Nat → Nat → Int32)) (O : (Nat → Nat → Option Nat)) (a0 : Nat) (x1 : Int32) (x2 : Int32) (x3 : Int32) : Option (Int32 × (Nat → Nat → Int32)) := (f10_hasRoll I (rO O (rO O a0 0) 0) x1).bind fun r3 => (if r3 = 0 then some (((-1) : Int32), I) else (f10_hasRoll I (rO O (rO O a0 0) 0) x2).bind fun r6 => (if r6 = 0 then some (((-1) : Int32), I) else (if x3 < 0 then some (((-1) : Int32), I) else (if x3 ≤ (16 : Int32) then (f2_clashes n I O (rO O a0 8) (rO O (rO O a0 0) 0) x1 x2 x3).bind fun r12 => some (r12.1, r12.2) else some (((-1) : Int32), I)))))
set_option maxHeartbeats 4000000 in
set_option maxRecDepth 20000 in
theorem o11_clash {g : pG} {Qx : Option Value → pW → Prop} {Z : pZ} {I : (Nat → Nat → Int32)} {L : (Nat → Nat → Int64)} {O : (Nat → Nat → Option Nat)} {n : Nat} {a0 : Nat} {x1 : Int32} {x2 : Int32} {x3 : Int32} {res : Int32 × (Nat → Nat → Int32)} (d : Nat) (hW : WT Z O) (hZ0 : Z[a0]? = some (11, 11)) (h : f11_clash n I O a0 x1 x2 x3 = some res) (hQ : Qx (some (.int res.1)) (Z, res.2, L, O)) : Ok g (d + 6, RX11, cX11_clash, 4, false, 0, 0, Z.length, pSl Z) Qx 0 [(0, .ref a0), (1, .int x1), (2, .int x2), (3, .int x3)] [] (Z, I, L, O) := by
  unfold f11_clash at h
  refine ok_aload_n dX11_clash_0 0 rfl ?_
  have hT1 : Z[(rO O a0 0)]? = some (9, 10) := (wt_f (ci := 11) (k := 0) hW hZ0 rfl).2
  refine ok_getR (ci := 11) (k := 0) dX11_clash_1 flRX11_10 rfl hW hZ0 (by decide) ?_
  have hT2 : Z[(rO O (rO O a0 0) 0)]? = some (10, 5) := (wt_f (ci := 9) (k := 0) hW hT1 rfl).2
  refine ok_getR (ci := 9) (k := 0) dX11_clash_4 flRX11_79 rfl hW hT1 (by decide) ?_
  refine ok_iload_n dX11_clash_7 1 rfl ?_
  obtain ⟨r3, hr4, h⟩ := bd h
  refine ok_callV (d := ((d + 3) + 2)) (mt := m10_hasRoll) (mc := 0) (ms := 0) (As := [.int x1]) (r := []) dX11_clash_8 mo10_hasRoll mv10_hasRoll lkRX11_152 rfl hT2 (q := (RX10, TX10, 5)) rfl rfl rfl (Nat.le_of_ble_eq_true rfl) (by show _ + 1 ≤ d + _; omega) (Nat.le_refl _) (Nat.le_refl _) (pRt_mono ?_)
  refine k10_hasRoll (d + 3) hW hT2 hr4 ?_
  intro hbr3
  show Ok g _ Qx 11 [(0, .ref a0), (1, .int x1), (2, .int x2), (3, .int x3)] [.int r3] (Z, I, L, O)
  refine ok_if_eq (t := 38) dX11_clash_11 (by decide) (fun hc5 => ?_) (fun hc5 => ?_)
  · have h := (if_pos hc5).symm.trans h
    refine ok_iconst (v := (-1)) dX11_clash_38 (by decide) ?_
    cases h
    exact ok_iret dX11_clash_39 hQ
  · have h := (if_neg hc5).symm.trans h
    refine ok_aload_n dX11_clash_14 0 rfl ?_
    refine ok_getR (ci := 11) (k := 0) dX11_clash_15 flRX11_10 rfl hW hZ0 (by decide) ?_
    refine ok_getR (ci := 9) (k := 0) dX11_clash_18 flRX11_79 rfl hW hT1 (by decide) ?_
    refine ok_iload_n dX11_clash_21 2 rfl ?_
    obtain ⟨r6, hr7, h⟩ := bd h
    refine ok_callV (d := ((d + 3) + 2)) (mt := m10_hasRoll) (mc := 0) (ms := 0) (As := [.int x2]) (r := []) dX11_clash_22 mo10_hasRoll mv10_hasRoll lkRX11_152 rfl hT2 (q := (RX10, TX10, 5)) rfl rfl rfl (Nat.le_of_ble_eq_true rfl) (by show _ + 1 ≤ d + _; omega) (Nat.le_refl _) (Nat.le_refl _) (pRt_mono ?_)
    refine k10_hasRoll (d + 3) hW hT2 hr7 ?_
    intro hbr6
    show Ok g _ Qx 25 [(0, .ref a0), (1, .int x1), (2, .int x2), (3, .int x3)] [.int r6] (Z, I, L, O)
    refine ok_if_eq (t := 38) dX11_clash_25 (by decide) (fun hc8 => ?_) (fun hc8 => ?_)
    · have h := (if_pos hc8).symm.trans h
      refine ok_iconst (v := (-1)) dX11_clash_38 (by decide) ?_
      cases h
      exact ok_iret dX11_clash_39 hQ
    · have h := (if_neg hc8).symm.trans h
      refine ok_iload_n dX11_clash_28 3 rfl ?_
      refine ok_if_lt (t := 38) dX11_clash_29 (by decide) (fun hc9 => ?_) (fun hc9 => ?_)
      · have h := (if_pos hc9).symm.trans h
        refine ok_iconst (v := (-1)) dX11_clash_38 (by decide) ?_
        cases h
        exact ok_iret dX11_clash_39 hQ
      · have h := (if_neg hc9).symm.trans h
        refine ok_iload_n dX11_clash_32 3 rfl ?_
        refine ok_bipush (v := 16) dX11_clash_33 (by decide) ?_
        refine ok_icmp_le (t := 40) dX11_clash_35 (by decide) (fun hc10 => ?_) (fun hc10 => ?_)
        · have h := (if_pos hc10).symm.trans h
          refine ok_aload_n dX11_clash_40 0 rfl ?_
          have hT11 : Z[(rO O a0 8)]? = some (2, 10) := (wt_f (ci := 11) (k := 8) hW hZ0 rfl).2
          refine ok_getR (ci := 11) (k := 8) dX11_clash_41 flRX11_58 rfl hW hZ0 (by decide) ?_
          refine ok_aload_n dX11_clash_44 0 rfl ?_
          refine ok_getR (ci := 11) (k := 0) dX11_clash_45 flRX11_10 rfl hW hZ0 (by decide) ?_
          refine ok_getR (ci := 9) (k := 0) dX11_clash_48 flRX11_79 rfl hW hT1 (by decide) ?_
          refine ok_iload_n dX11_clash_51 1 rfl ?_
          refine ok_iload_n dX11_clash_52 2 rfl ?_
          refine ok_iload_n dX11_clash_53 3 rfl ?_
          obtain ⟨r12, hr13, h⟩ := bd h
          refine ok_callV (d := ((d + 0) + 5)) (mt := m2_clashes) (mc := 0) (ms := 0) (As := [.ref (rO O (rO O a0 0) 0), .int x1, .int x2, .int x3]) (r := []) dX11_clash_54 mo2_clashes mv2_clashes lkRX11_309 rfl hT11 (q := (RX2, TX2, 10)) rfl rfl rfl (Nat.le_of_ble_eq_true rfl) (by show _ + 1 ≤ d + _; omega) (Nat.le_refl _) (Nat.le_refl _) (pRt_mono ?_)
          refine k2_clashes (d + 0) hW hT11 hT2 hr13 ?_
          intro _
          show Ok g _ Qx 57 [(0, .ref a0), (1, .int x1), (2, .int x2), (3, .int x3)] [.int r12.1] (Z, r12.2, L, O)
          cases h
          exact ok_iret dX11_clash_57 hQ
        · have h := (if_neg hc10).symm.trans h
          refine ok_iconst (v := (-1)) dX11_clash_38 (by decide) ?_
          cases h
          exact ok_iret dX11_clash_39 hQ
theorem k11_clash {g : pG} {Q : Option Value → pW → Prop} {Z : pZ} {I : (Nat → Nat → Int32)} {L : (Nat → Nat → Int64)} {O : (Nat → Nat → Option Nat)} {n : Nat} {a0 : Nat} {x1 : Int32} {x2 : Int32} {x3 : Int32} {res : Int32 × (Nat → Nat → Int32)} (d : Nat) (hW : WT Z O) (hZ0 : Z[a0]? = some (11, 11)) (h : f11_clash n I O a0 x1 x2 x3 = some res) (hQ : Q (some (.int res.1)) (Z, res.2, L, O)) : CT g (d + 6) m11_clash 0 0 [.ref a0, .int x1, .int x2, .int x3] (Z, I, L, O) Q :=
  ct_of_ok (mt := m11_clash) (ini := false) mo11_clash.2.2.2.2 (fun h => by cases h) (Nat.le_of_ble_eq_true rfl) (o11_clash d hW hZ0 h ⟨trivial, hQ, rfl, rfl⟩)
theorem dX11_together_0 : decode cX11_together 0 = .ok (.aload_n 0, 1) := by decide +kernel
theorem dX11_together_1 : decode cX11_together 1 = .ok (.getfield 10, 3) := by decide +kernel
theorem dX11_together_4 : decode cX11_together 4 = .ok (.getfield 79, 3) := by decide +kernel
theorem dX11_together_7 : decode cX11_together 7 = .ok (.iload_n 1, 1) := by decide +kernel
theorem dX11_together_8 : decode cX11_together 8 = .ok (.invokevirtual 152, 3) := by decide +kernel
theorem dX11_together_11 : decode cX11_together 11 = .ok (.ifCond .eq 17, 3) := by decide +kernel
theorem dX11_together_14 : decode cX11_together 14 = .ok (.aload_n 0, 1) := by decide +kernel
theorem dX11_together_15 : decode cX11_together 15 = .ok (.getfield 10, 3) := by decide +kernel
theorem dX11_together_18 : decode cX11_together 18 = .ok (.getfield 79, 3) := by decide +kernel
theorem dX11_together_21 : decode cX11_together 21 = .ok (.iload_n 2, 1) := by decide +kernel
theorem dX11_together_22 : decode cX11_together 22 = .ok (.invokevirtual 152, 3) := by decide +kernel
theorem dX11_together_25 : decode cX11_together 25 = .ok (.ifCond .ne 5, 3) := by decide +kernel
theorem dX11_together_28 : decode cX11_together 28 = .ok (.iconst (-1), 1) := by decide +kernel
theorem dX11_together_29 : decode cX11_together 29 = .ok (.ireturn, 1) := by decide +kernel
theorem dX11_together_30 : decode cX11_together 30 = .ok (.iconst 0, 1) := by decide +kernel
theorem dX11_together_31 : decode cX11_together 31 = .ok (.istore_n 3, 1) := by decide +kernel
theorem dX11_together_32 : decode cX11_together 32 = .ok (.aload_n 0, 1) := by decide +kernel
theorem dX11_together_33 : decode cX11_together 33 = .ok (.getfield 58, 3) := by decide +kernel
theorem dX11_together_36 : decode cX11_together 36 = .ok (.aload_n 0, 1) := by decide +kernel
theorem dX11_together_37 : decode cX11_together 37 = .ok (.getfield 10, 3) := by decide +kernel
theorem dX11_together_40 : decode cX11_together 40 = .ok (.getfield 79, 3) := by decide +kernel
theorem dX11_together_43 : decode cX11_together 43 = .ok (.iload_n 1, 1) := by decide +kernel
theorem dX11_together_44 : decode cX11_together 44 = .ok (.iload_n 2, 1) := by decide +kernel
theorem dX11_together_45 : decode cX11_together 45 = .ok (.iconst 0, 1) := by decide +kernel
theorem dX11_together_46 : decode cX11_together 46 = .ok (.invokevirtual 309, 3) := by decide +kernel
theorem dX11_together_49 : decode cX11_together 49 = .ok (.istore 4, 2) := by decide +kernel
theorem dX11_together_51 : decode cX11_together 51 = .ok (.iconst 1, 1) := by decide +kernel
theorem dX11_together_52 : decode cX11_together 52 = .ok (.istore 5, 2) := by decide +kernel
theorem dX11_together_54 : decode cX11_together 54 = .ok (.iload 5, 2) := by decide +kernel
theorem dX11_together_56 : decode cX11_together 56 = .ok (.bipush 16, 2) := by decide +kernel
theorem dX11_together_58 : decode cX11_together 58 = .ok (.if_icmp .gt 43, 3) := by decide +kernel
theorem dX11_together_61 : decode cX11_together 61 = .ok (.aload_n 0, 1) := by decide +kernel
theorem dX11_together_62 : decode cX11_together 62 = .ok (.getfield 58, 3) := by decide +kernel
theorem dX11_together_65 : decode cX11_together 65 = .ok (.aload_n 0, 1) := by decide +kernel
theorem dX11_together_66 : decode cX11_together 66 = .ok (.getfield 10, 3) := by decide +kernel
theorem dX11_together_69 : decode cX11_together 69 = .ok (.getfield 79, 3) := by decide +kernel
theorem dX11_together_72 : decode cX11_together 72 = .ok (.iload_n 1, 1) := by decide +kernel
theorem dX11_together_73 : decode cX11_together 73 = .ok (.iload_n 2, 1) := by decide +kernel
theorem dX11_together_74 : decode cX11_together 74 = .ok (.iload 5, 2) := by decide +kernel
theorem dX11_together_76 : decode cX11_together 76 = .ok (.invokevirtual 309, 3) := by decide +kernel
theorem dX11_together_79 : decode cX11_together 79 = .ok (.istore 6, 2) := by decide +kernel
theorem dX11_together_81 : decode cX11_together 81 = .ok (.iload 6, 2) := by decide +kernel
theorem dX11_together_83 : decode cX11_together 83 = .ok (.iload 4, 2) := by decide +kernel
theorem dX11_together_85 : decode cX11_together 85 = .ok (.if_icmp .ge 10, 3) := by decide +kernel
theorem dX11_together_88 : decode cX11_together 88 = .ok (.iload 6, 2) := by decide +kernel
theorem dX11_together_90 : decode cX11_together 90 = .ok (.istore 4, 2) := by decide +kernel
theorem dX11_together_92 : decode cX11_together 92 = .ok (.iload 5, 2) := by decide +kernel
theorem dX11_together_94 : decode cX11_together 94 = .ok (.istore_n 3, 1) := by decide +kernel
theorem dX11_together_95 : decode cX11_together 95 = .ok (.iinc 5 1, 3) := by decide +kernel
theorem dX11_together_98 : decode cX11_together 98 = .ok (.goto (-44), 3) := by decide +kernel
theorem dX11_together_101 : decode cX11_together 101 = .ok (.iload_n 3, 1) := by decide +kernel
theorem dX11_together_102 : decode cX11_together 102 = .ok (.ireturn, 1) := by decide +kernel
def m11_together : pMT := (yX11_together, cX11_together, 7, some .int)
theorem mo11_together : mOK m11_together 2 := ⟨tb_i 1103 (by decide +kernel), wi_RX11, ⟨wn_RX11.1, wn_RX11.2, by decide +kernel⟩, by decide, plainFor_of_name wp_RX11⟩
theorem mv11_together : mV m11_together := ⟨tb_i 1101 (by decide +kernel), tb_i 1102 (by decide +kernel)⟩
def f11_together_c54 (n : Nat) (O : (Nat → Nat → Option Nat)) : Nat → (Nat → Nat → Int32) → Nat → Int32 → Int32 → Int32 → Int32 → Int32 → Option (Int32 × (Nat → Nat → Int32))
  | 0, _, _, _, _, _, _, _ => none
  | m + 1, I, b0, y1, y2, y3, y4, y5 => (if (16 : Int32) < y5 then some (y3, I) else (f2_clashes n I O (rO O b0 8) (rO O (rO O b0 0) 0) y1 y2 y5).bind fun r5 => (if y4 ≤ r5.1 then f11_together_c54 n O m r5.2 b0 y1 y2 y3 y4 (y5 + 1) else f11_together_c54 n O m r5.2 b0 y1 y2 y5 r5.1 (y5 + 1)))
set_option maxHeartbeats 4000000 in
set_option maxRecDepth 20000 in
theorem o11_together_c54 {g : pG} {Qx : Option Value → pW → Prop} {Z : pZ} {L : (Nat → Nat → Int64)} {O : (Nat → Nat → Option Nat)} {n : Nat} {res : Int32 × (Nat → Nat → Int32)} (d : Nat) (hW : WT Z O) (hQ : Qx (some (.int res.1)) (Z, res.2, L, O)) : ∀ (m : Nat) (I : (Nat → Nat → Int32)) (b0 : Nat) (y1 : Int32) (y2 : Int32) (y3 : Int32) (y4 : Int32) (y5 : Int32), (Z[b0]? = some (11, 11)) → f11_together_c54 n O m I b0 y1 y2 y3 y4 y5 = some res → Ok g (d + 6, RX11, cX11_together, 7, false, 0, 0, Z.length, pSl Z) Qx 54 [(0, .ref b0), (1, .int y1), (2, .int y2), (3, .int y3), (4, .int y4), (5, .int y5)] [] (Z, I, L, O) := by
  intro m
  induction m with
  | zero => intro I b0 y1 y2 y3 y4 y5 hZ_b0 h; rw [f11_together_c54] at h; cases h
  | succ m ih =>
    intro I b0 y1 y2 y3 y4 y5 hZ_b0 h
    rw [f11_together_c54] at h
    refine ok_iload dX11_together_54 5 rfl ?_
    refine ok_bipush (v := 16) dX11_together_56 (by decide) ?_
    refine ok_icmp_gt (t := 101) dX11_together_58 (by decide) (fun hc1 => ?_) (fun hc1 => ?_)
    · have h := (if_pos hc1).symm.trans h
      refine ok_iload_n dX11_together_101 3 rfl ?_
      cases h
      exact ok_iret dX11_together_102 hQ
    · have h := (if_neg hc1).symm.trans h
      refine ok_aload_n dX11_together_61 0 rfl ?_
      have hT2 : Z[(rO O b0 8)]? = some (2, 10) := (wt_f (ci := 11) (k := 8) hW hZ_b0 rfl).2
      refine ok_getR (ci := 11) (k := 8) dX11_together_62 flRX11_58 rfl hW hZ_b0 (by decide) ?_
      refine ok_aload_n dX11_together_65 0 rfl ?_
      have hT3 : Z[(rO O b0 0)]? = some (9, 10) := (wt_f (ci := 11) (k := 0) hW hZ_b0 rfl).2
      refine ok_getR (ci := 11) (k := 0) dX11_together_66 flRX11_10 rfl hW hZ_b0 (by decide) ?_
      have hT4 : Z[(rO O (rO O b0 0) 0)]? = some (10, 5) := (wt_f (ci := 9) (k := 0) hW hT3 rfl).2
      refine ok_getR (ci := 9) (k := 0) dX11_together_69 flRX11_79 rfl hW hT3 (by decide) ?_
      refine ok_iload_n dX11_together_72 1 rfl ?_
      refine ok_iload_n dX11_together_73 2 rfl ?_
      refine ok_iload dX11_together_74 5 rfl ?_
      obtain ⟨r5, hr6, h⟩ := bd h
      refine ok_callV (d := ((d + 0) + 5)) (mt := m2_clashes) (mc := 0) (ms := 0) (As := [.ref (rO O (rO O b0 0) 0), .int y1, .int y2, .int y5]) (r := []) dX11_together_76 mo2_clashes mv2_clashes lkRX11_309 rfl hT2 (q := (RX2, TX2, 10)) rfl rfl rfl (Nat.le_of_ble_eq_true rfl) (by show _ + 1 ≤ d + _; omega) (Nat.le_refl _) (Nat.le_refl _) (pRt_mono ?_)
      refine k2_clashes (d + 0) hW hT2 hT4 hr6 ?_
      intro _
      show Ok g _ Qx 79 [(0, .ref b0), (1, .int y1), (2, .int y2), (3, .int y3), (4, .int y4), (5, .int y5)] [.int r5.1] (Z, r5.2, L, O)
      refine ok_istore (l' := [(6, .int r5.1), (0, .ref b0), (1, .int y1), (2, .int y2), (3, .int y3), (4, .int y4), (5, .int y5)]) dX11_together_79 (Nat.le_of_ble_eq_true rfl) rfl ?_
      refine ok_iload dX11_together_81 0 rfl ?_
      refine ok_iload dX11_together_83 5 rfl ?_
      refine ok_icmp_ge (t := 95) dX11_together_85 (by decide) (fun hc7 => ?_) (fun hc7 => ?_)
      · have h := (if_pos hc7).symm.trans h
        refine ok_iinc (u := (y5 + 1)) (l' := [(5, .int (y5 + 1)), (6, .int r5.1), (0, .ref b0), (1, .int y1), (2, .int y2), (3, .int y3), (4, .int y4)]) dX11_together_95 6 rfl rfl (Nat.le_of_ble_eq_true rfl) rfl ?_
        refine ok_goto (t := 54) dX11_together_98 (by decide) ?_
        refine ok_sub [2, 3, 4, 5, 6, 0] rfl ?_
        exact ih r5.2 b0 y1 y2 y3 y4 (y5 + 1) hZ_b0 h
      · have h := (if_neg hc7).symm.trans h
        refine ok_iload dX11_together_88 0 rfl ?_
        refine ok_istore (l' := [(4, .int r5.1), (6, .int r5.1), (0, .ref b0), (1, .int y1), (2, .int y2), (3, .int y3), (5, .int y5)]) dX11_together_90 (Nat.le_of_ble_eq_true rfl) rfl ?_
        refine ok_iload dX11_together_92 6 rfl ?_
        refine ok_istore_n (l' := [(3, .int y5), (4, .int r5.1), (6, .int r5.1), (0, .ref b0), (1, .int y1), (2, .int y2), (5, .int y5)]) dX11_together_94 rfl (Nat.le_of_ble_eq_true rfl) rfl ?_
        refine ok_iinc (u := (y5 + 1)) (l' := [(5, .int (y5 + 1)), (3, .int y5), (4, .int r5.1), (6, .int r5.1), (0, .ref b0), (1, .int y1), (2, .int y2)]) dX11_together_95 6 rfl rfl (Nat.le_of_ble_eq_true rfl) rfl ?_
        refine ok_goto (t := 54) dX11_together_98 (by decide) ?_
        refine ok_sub [4, 5, 6, 1, 2, 0] rfl ?_
        exact ih r5.2 b0 y1 y2 y5 r5.1 (y5 + 1) hZ_b0 h
def f11_together (n : Nat) (I : (Nat → Nat → Int32)) (O : (Nat → Nat → Option Nat)) (a0 : Nat) (x1 : Int32) (x2 : Int32) : Option (Int32 × (Nat → Nat → Int32)) := (f10_hasRoll I (rO O (rO O a0 0) 0) x1).bind fun r3 => (if r3 = 0 then some (((-1) : Int32), I) else (f10_hasRoll I (rO O (rO O a0 0) 0) x2).bind fun r6 => (if r6 = 0 then some (((-1) : Int32), I) else (f2_clashes n I O (rO O a0 8) (rO O (rO O a0 0) 0) x1 x2 (0 : Int32)).bind fun r10 => f11_together_c54 n O n r10.2 a0 x1 x2 (0 : Int32) r10.1 (1 : Int32)))
set_option maxHeartbeats 4000000 in
set_option maxRecDepth 20000 in
theorem o11_together {g : pG} {Qx : Option Value → pW → Prop} {Z : pZ} {I : (Nat → Nat → Int32)} {L : (Nat → Nat → Int64)} {O : (Nat → Nat → Option Nat)} {n : Nat} {a0 : Nat} {x1 : Int32} {x2 : Int32} {res : Int32 × (Nat → Nat → Int32)} (d : Nat) (hW : WT Z O) (hZ0 : Z[a0]? = some (11, 11)) (h : f11_together n I O a0 x1 x2 = some res) (hQ : Qx (some (.int res.1)) (Z, res.2, L, O)) : Ok g (d + 6, RX11, cX11_together, 7, false, 0, 0, Z.length, pSl Z) Qx 0 [(0, .ref a0), (1, .int x1), (2, .int x2)] [] (Z, I, L, O) := by
  unfold f11_together at h
  refine ok_aload_n dX11_together_0 0 rfl ?_
  have hT1 : Z[(rO O a0 0)]? = some (9, 10) := (wt_f (ci := 11) (k := 0) hW hZ0 rfl).2
  refine ok_getR (ci := 11) (k := 0) dX11_together_1 flRX11_10 rfl hW hZ0 (by decide) ?_
  have hT2 : Z[(rO O (rO O a0 0) 0)]? = some (10, 5) := (wt_f (ci := 9) (k := 0) hW hT1 rfl).2
  refine ok_getR (ci := 9) (k := 0) dX11_together_4 flRX11_79 rfl hW hT1 (by decide) ?_
  refine ok_iload_n dX11_together_7 1 rfl ?_
  obtain ⟨r3, hr4, h⟩ := bd h
  refine ok_callV (d := ((d + 3) + 2)) (mt := m10_hasRoll) (mc := 0) (ms := 0) (As := [.int x1]) (r := []) dX11_together_8 mo10_hasRoll mv10_hasRoll lkRX11_152 rfl hT2 (q := (RX10, TX10, 5)) rfl rfl rfl (Nat.le_of_ble_eq_true rfl) (by show _ + 1 ≤ d + _; omega) (Nat.le_refl _) (Nat.le_refl _) (pRt_mono ?_)
  refine k10_hasRoll (d + 3) hW hT2 hr4 ?_
  intro hbr3
  show Ok g _ Qx 11 [(0, .ref a0), (1, .int x1), (2, .int x2)] [.int r3] (Z, I, L, O)
  refine ok_if_eq (t := 28) dX11_together_11 (by decide) (fun hc5 => ?_) (fun hc5 => ?_)
  · have h := (if_pos hc5).symm.trans h
    refine ok_iconst (v := (-1)) dX11_together_28 (by decide) ?_
    cases h
    exact ok_iret dX11_together_29 hQ
  · have h := (if_neg hc5).symm.trans h
    refine ok_aload_n dX11_together_14 0 rfl ?_
    refine ok_getR (ci := 11) (k := 0) dX11_together_15 flRX11_10 rfl hW hZ0 (by decide) ?_
    refine ok_getR (ci := 9) (k := 0) dX11_together_18 flRX11_79 rfl hW hT1 (by decide) ?_
    refine ok_iload_n dX11_together_21 2 rfl ?_
    obtain ⟨r6, hr7, h⟩ := bd h
    refine ok_callV (d := ((d + 3) + 2)) (mt := m10_hasRoll) (mc := 0) (ms := 0) (As := [.int x2]) (r := []) dX11_together_22 mo10_hasRoll mv10_hasRoll lkRX11_152 rfl hT2 (q := (RX10, TX10, 5)) rfl rfl rfl (Nat.le_of_ble_eq_true rfl) (by show _ + 1 ≤ d + _; omega) (Nat.le_refl _) (Nat.le_refl _) (pRt_mono ?_)
    refine k10_hasRoll (d + 3) hW hT2 hr7 ?_
    intro hbr6
    show Ok g _ Qx 25 [(0, .ref a0), (1, .int x1), (2, .int x2)] [.int r6] (Z, I, L, O)
    refine ok_if_ne (t := 30) dX11_together_25 (by decide) (fun hc8 => ?_) (fun hc8 => ?_)
    · have h := (if_neg hc8).symm.trans h
      refine ok_iconst (v := 0) dX11_together_30 (by decide) ?_
      refine ok_istore_n (l' := [(3, .int 0), (0, .ref a0), (1, .int x1), (2, .int x2)]) dX11_together_31 rfl (Nat.le_of_ble_eq_true rfl) rfl ?_
      refine ok_aload_n dX11_together_32 1 rfl ?_
      have hT9 : Z[(rO O a0 8)]? = some (2, 10) := (wt_f (ci := 11) (k := 8) hW hZ0 rfl).2
      refine ok_getR (ci := 11) (k := 8) dX11_together_33 flRX11_58 rfl hW hZ0 (by decide) ?_
      refine ok_aload_n dX11_together_36 1 rfl ?_
      refine ok_getR (ci := 11) (k := 0) dX11_together_37 flRX11_10 rfl hW hZ0 (by decide) ?_
      refine ok_getR (ci := 9) (k := 0) dX11_together_40 flRX11_79 rfl hW hT1 (by decide) ?_
      refine ok_iload_n dX11_together_43 2 rfl ?_
      refine ok_iload_n dX11_together_44 3 rfl ?_
      refine ok_iconst (v := 0) dX11_together_45 (by decide) ?_
      obtain ⟨r10, hr11, h⟩ := bd h
      refine ok_callV (d := ((d + 0) + 5)) (mt := m2_clashes) (mc := 0) (ms := 0) (As := [.ref (rO O (rO O a0 0) 0), .int x1, .int x2, .int 0]) (r := []) dX11_together_46 mo2_clashes mv2_clashes lkRX11_309 rfl hT9 (q := (RX2, TX2, 10)) rfl rfl rfl (Nat.le_of_ble_eq_true rfl) (by show _ + 1 ≤ d + _; omega) (Nat.le_refl _) (Nat.le_refl _) (pRt_mono ?_)
      refine k2_clashes (d + 0) hW hT9 hT2 hr11 ?_
      intro _
      show Ok g _ Qx 49 [(3, .int 0), (0, .ref a0), (1, .int x1), (2, .int x2)] [.int r10.1] (Z, r10.2, L, O)
      refine ok_istore (l' := [(4, .int r10.1), (3, .int 0), (0, .ref a0), (1, .int x1), (2, .int x2)]) dX11_together_49 (Nat.le_of_ble_eq_true rfl) rfl ?_
      refine ok_iconst (v := 1) dX11_together_51 (by decide) ?_
      refine ok_istore (l' := [(5, .int 1), (4, .int r10.1), (3, .int 0), (0, .ref a0), (1, .int x1), (2, .int x2)]) dX11_together_52 (Nat.le_of_ble_eq_true rfl) rfl ?_
      refine ok_sub [3, 4, 5, 2, 1, 0] rfl ?_
      exact o11_together_c54 d hW hQ  n r10.2 a0 x1 x2 (0 : Int32) r10.1 (1 : Int32) hZ0 h
    · have h := (if_pos hc8).symm.trans h
      refine ok_iconst (v := (-1)) dX11_together_28 (by decide) ?_
      cases h
      exact ok_iret dX11_together_29 hQ
theorem k11_together {g : pG} {Q : Option Value → pW → Prop} {Z : pZ} {I : (Nat → Nat → Int32)} {L : (Nat → Nat → Int64)} {O : (Nat → Nat → Option Nat)} {n : Nat} {a0 : Nat} {x1 : Int32} {x2 : Int32} {res : Int32 × (Nat → Nat → Int32)} (d : Nat) (hW : WT Z O) (hZ0 : Z[a0]? = some (11, 11)) (h : f11_together n I O a0 x1 x2 = some res) (hQ : Q (some (.int res.1)) (Z, res.2, L, O)) : CT g (d + 6) m11_together 0 0 [.ref a0, .int x1, .int x2] (Z, I, L, O) Q :=
  ct_of_ok (mt := m11_together) (ini := false) mo11_together.2.2.2.2 (fun h => by cases h) (Nat.le_of_ble_eq_true rfl) (o11_together d hW hZ0 h ⟨trivial, hQ, rfl, rfl⟩)
theorem dX11_canStand_0 : decode cX11_canStand 0 = .ok (.iload_n 1, 1) := by decide +kernel
theorem dX11_canStand_1 : decode cX11_canStand 1 = .ok (.ifCond .le 19, 3) := by decide +kernel
theorem dX11_canStand_4 : decode cX11_canStand 4 = .ok (.iload_n 1, 1) := by decide +kernel
theorem dX11_canStand_5 : decode cX11_canStand 5 = .ok (.iconst 1, 1) := by decide +kernel
theorem dX11_canStand_6 : decode cX11_canStand 6 = .ok (.aload_n 0, 1) := by decide +kernel
theorem dX11_canStand_7 : decode cX11_canStand 7 = .ok (.getfield 10, 3) := by decide +kernel
theorem dX11_canStand_10 : decode cX11_canStand 10 = .ok (.getfield 79, 3) := by decide +kernel
theorem dX11_canStand_13 : decode cX11_canStand 13 = .ok (.getfield 256, 3) := by decide +kernel
theorem dX11_canStand_16 : decode cX11_canStand 16 = .ok (.ishl, 1) := by decide +kernel
theorem dX11_canStand_17 : decode cX11_canStand 17 = .ok (.if_icmp .lt 5, 3) := by decide +kernel
theorem dX11_canStand_20 : decode cX11_canStand 20 = .ok (.iconst 0, 1) := by decide +kernel
theorem dX11_canStand_21 : decode cX11_canStand 21 = .ok (.ireturn, 1) := by decide +kernel
theorem dX11_canStand_22 : decode cX11_canStand 22 = .ok (.iconst 0, 1) := by decide +kernel
theorem dX11_canStand_23 : decode cX11_canStand 23 = .ok (.istore_n 2, 1) := by decide +kernel
theorem dX11_canStand_24 : decode cX11_canStand 24 = .ok (.iload_n 2, 1) := by decide +kernel
theorem dX11_canStand_25 : decode cX11_canStand 25 = .ok (.aload_n 0, 1) := by decide +kernel
theorem dX11_canStand_26 : decode cX11_canStand 26 = .ok (.getfield 10, 3) := by decide +kernel
theorem dX11_canStand_29 : decode cX11_canStand 29 = .ok (.getfield 79, 3) := by decide +kernel
theorem dX11_canStand_32 : decode cX11_canStand 32 = .ok (.getfield 256, 3) := by decide +kernel
theorem dX11_canStand_35 : decode cX11_canStand 35 = .ok (.if_icmp .ge 33, 3) := by decide +kernel
theorem dX11_canStand_38 : decode cX11_canStand 38 = .ok (.iload_n 1, 1) := by decide +kernel
theorem dX11_canStand_39 : decode cX11_canStand 39 = .ok (.iload_n 2, 1) := by decide +kernel
theorem dX11_canStand_40 : decode cX11_canStand 40 = .ok (.ishr, 1) := by decide +kernel
theorem dX11_canStand_41 : decode cX11_canStand 41 = .ok (.iconst 1, 1) := by decide +kernel
theorem dX11_canStand_42 : decode cX11_canStand 42 = .ok (.iand, 1) := by decide +kernel
theorem dX11_canStand_43 : decode cX11_canStand 43 = .ok (.ifCond .eq 19, 3) := by decide +kernel
theorem dX11_canStand_46 : decode cX11_canStand 46 = .ok (.aload_n 0, 1) := by decide +kernel
theorem dX11_canStand_47 : decode cX11_canStand 47 = .ok (.getfield 10, 3) := by decide +kernel
theorem dX11_canStand_50 : decode cX11_canStand 50 = .ok (.getfield 79, 3) := by decide +kernel
theorem dX11_canStand_53 : decode cX11_canStand 53 = .ok (.iload_n 2, 1) := by decide +kernel
theorem dX11_canStand_54 : decode cX11_canStand 54 = .ok (.invokevirtual 231, 3) := by decide +kernel
theorem dX11_canStand_57 : decode cX11_canStand 57 = .ok (.ifCond .eq 5, 3) := by decide +kernel
theorem dX11_canStand_60 : decode cX11_canStand 60 = .ok (.iconst 0, 1) := by decide +kernel
theorem dX11_canStand_61 : decode cX11_canStand 61 = .ok (.ireturn, 1) := by decide +kernel
theorem dX11_canStand_62 : decode cX11_canStand 62 = .ok (.iinc 2 1, 3) := by decide +kernel
theorem dX11_canStand_65 : decode cX11_canStand 65 = .ok (.goto (-41), 3) := by decide +kernel
theorem dX11_canStand_68 : decode cX11_canStand 68 = .ok (.iconst 1, 1) := by decide +kernel
theorem dX11_canStand_69 : decode cX11_canStand 69 = .ok (.ireturn, 1) := by decide +kernel
def m11_canStand : pMT := (yX11_canStand, cX11_canStand, 3, some .boolean)
theorem mo11_canStand : mOK m11_canStand 1 := ⟨tb_i 1111 (by decide +kernel), wi_RX11, ⟨wn_RX11.1, wn_RX11.2, by decide +kernel⟩, by decide, plainFor_of_name wp_RX11⟩
theorem mv11_canStand : mV m11_canStand := ⟨tb_i 1110 (by decide +kernel), tb_p 46 (by decide +kernel)⟩
def f11_canStand_c24 (n : Nat) (I : (Nat → Nat → Int32)) (O : (Nat → Nat → Option Nat)) : Nat → Nat → Int32 → Int32 → Option (Int32)
  | 0, _, _, _ => none
  | m + 1, b0, y1, y2 => (if (I (rO O (rO O b0 0) 0) 3) ≤ y2 then some ((1 : Int32)) else (if ((y1 >>> (y2 &&& 31)) &&& 1) = 0 then f11_canStand_c24 n I O m b0 y1 (y2 + 1) else (f10_tornPlaces n I O (rO O (rO O b0 0) 0) y2).bind fun r5 => (if r5 = 0 then f11_canStand_c24 n I O m b0 y1 (y2 + 1) else some ((0 : Int32)))))
set_option maxHeartbeats 4000000 in
set_option maxRecDepth 20000 in
theorem o11_canStand_c24 {g : pG} {Qx : Option Value → pW → Prop} {Z : pZ} {I : (Nat → Nat → Int32)} {L : (Nat → Nat → Int64)} {O : (Nat → Nat → Option Nat)} {n : Nat} {res : Int32} (d : Nat) (hW : WT Z O) (hQ : (res = 0 ∨ res = 1) → Qx (some (.int res)) (Z, I, L, O)) : ∀ (m : Nat) (b0 : Nat) (y1 : Int32) (y2 : Int32), (Z[b0]? = some (11, 11)) → f11_canStand_c24 n I O m b0 y1 y2 = some res → Ok g (d + 5, RX11, cX11_canStand, 3, false, 0, 0, Z.length, pSl Z) Qx 24 [(0, .ref b0), (1, .int y1), (2, .int y2)] [] (Z, I, L, O) := by
  intro m
  induction m with
  | zero => intro b0 y1 y2 hZ_b0 h; rw [f11_canStand_c24] at h; cases h
  | succ m ih =>
    intro b0 y1 y2 hZ_b0 h
    rw [f11_canStand_c24] at h
    refine ok_iload_n dX11_canStand_24 2 rfl ?_
    refine ok_aload_n dX11_canStand_25 0 rfl ?_
    have hT1 : Z[(rO O b0 0)]? = some (9, 10) := (wt_f (ci := 11) (k := 0) hW hZ_b0 rfl).2
    refine ok_getR (ci := 11) (k := 0) dX11_canStand_26 flRX11_10 rfl hW hZ_b0 (by decide) ?_
    have hT2 : Z[(rO O (rO O b0 0) 0)]? = some (10, 5) := (wt_f (ci := 9) (k := 0) hW hT1 rfl).2
    refine ok_getR (ci := 9) (k := 0) dX11_canStand_29 flRX11_79 rfl hW hT1 (by decide) ?_
    refine ok_getI (ci := 10) (k := 3) dX11_canStand_32 flRX11_256 rfl hT2 (by decide) ?_
    refine ok_icmp_ge (t := 68) dX11_canStand_35 (by decide) (fun hc3 => ?_) (fun hc3 => ?_)
    · have h := (if_pos hc3).symm.trans h
      refine ok_iconst (v := 1) dX11_canStand_68 (by decide) ?_
      cases h
      exact ok_iret dX11_canStand_69 (hQ (Or.inr rfl))
    · have h := (if_neg hc3).symm.trans h
      refine ok_iload_n dX11_canStand_38 1 rfl ?_
      refine ok_iload_n dX11_canStand_39 2 rfl ?_
      refine ok_ishr dX11_canStand_40 ?_
      refine ok_iconst (v := 1) dX11_canStand_41 (by decide) ?_
      refine ok_iand dX11_canStand_42 ?_
      refine ok_if_eq (t := 62) dX11_canStand_43 (by decide) (fun hc4 => ?_) (fun hc4 => ?_)
      · have h := (if_pos hc4).symm.trans h
        refine ok_iinc (u := (y2 + 1)) (l' := [(2, .int (y2 + 1)), (0, .ref b0), (1, .int y1)]) dX11_canStand_62 2 rfl rfl (Nat.le_of_ble_eq_true rfl) rfl ?_
        refine ok_goto (t := 24) dX11_canStand_65 (by decide) ?_
        refine ok_sub [1, 2, 0] rfl ?_
        exact ih b0 y1 (y2 + 1) hZ_b0 h
      · have h := (if_neg hc4).symm.trans h
        refine ok_aload_n dX11_canStand_46 0 rfl ?_
        refine ok_getR (ci := 11) (k := 0) dX11_canStand_47 flRX11_10 rfl hW hZ_b0 (by decide) ?_
        refine ok_getR (ci := 9) (k := 0) dX11_canStand_50 flRX11_79 rfl hW hT1 (by decide) ?_
        refine ok_iload_n dX11_canStand_53 2 rfl ?_
        obtain ⟨r5, hr6, h⟩ := bd h
        refine ok_callV (d := ((d + 0) + 4)) (mt := m10_tornPlaces) (mc := 0) (ms := 0) (As := [.int y2]) (r := []) dX11_canStand_54 mo10_tornPlaces mv10_tornPlaces lkRX11_231 rfl hT2 (q := (RX10, TX10, 5)) rfl rfl rfl (Nat.le_of_ble_eq_true rfl) (by show _ + 1 ≤ d + _; omega) (Nat.le_refl _) (Nat.le_refl _) (pRt_mono ?_)
        refine k10_tornPlaces (d + 0) hW hT2 hr6 ?_
        intro _
        show Ok g _ Qx 57 [(0, .ref b0), (1, .int y1), (2, .int y2)] [.int r5] (Z, I, L, O)
        refine ok_if_eq (t := 62) dX11_canStand_57 (by decide) (fun hc7 => ?_) (fun hc7 => ?_)
        · have h := (if_pos hc7).symm.trans h
          refine ok_iinc (u := (y2 + 1)) (l' := [(2, .int (y2 + 1)), (0, .ref b0), (1, .int y1)]) dX11_canStand_62 2 rfl rfl (Nat.le_of_ble_eq_true rfl) rfl ?_
          refine ok_goto (t := 24) dX11_canStand_65 (by decide) ?_
          refine ok_sub [1, 2, 0] rfl ?_
          exact ih b0 y1 (y2 + 1) hZ_b0 h
        · have h := (if_neg hc7).symm.trans h
          refine ok_iconst (v := 0) dX11_canStand_60 (by decide) ?_
          cases h
          exact ok_iret dX11_canStand_61 (hQ (Or.inl rfl))
def f11_canStand (n : Nat) (I : (Nat → Nat → Int32)) (O : (Nat → Nat → Option Nat)) (a0 : Nat) (x1 : Int32) : Option (Int32) := (if x1 ≤ 0 then some ((0 : Int32)) else (if x1 < ((1 : Int32) <<< ((I (rO O (rO O a0 0) 0) 3) &&& 31)) then f11_canStand_c24 n I O n a0 x1 (0 : Int32) else some ((0 : Int32))))
set_option maxHeartbeats 4000000 in
set_option maxRecDepth 20000 in
theorem o11_canStand {g : pG} {Qx : Option Value → pW → Prop} {Z : pZ} {I : (Nat → Nat → Int32)} {L : (Nat → Nat → Int64)} {O : (Nat → Nat → Option Nat)} {n : Nat} {a0 : Nat} {x1 : Int32} {res : Int32} (d : Nat) (hW : WT Z O) (hZ0 : Z[a0]? = some (11, 11)) (h : f11_canStand n I O a0 x1 = some res) (hQ : (res = 0 ∨ res = 1) → Qx (some (.int res)) (Z, I, L, O)) : Ok g (d + 5, RX11, cX11_canStand, 3, false, 0, 0, Z.length, pSl Z) Qx 0 [(0, .ref a0), (1, .int x1)] [] (Z, I, L, O) := by
  unfold f11_canStand at h
  refine ok_iload_n dX11_canStand_0 1 rfl ?_
  refine ok_if_le (t := 20) dX11_canStand_1 (by decide) (fun hc1 => ?_) (fun hc1 => ?_)
  · have h := (if_pos hc1).symm.trans h
    refine ok_iconst (v := 0) dX11_canStand_20 (by decide) ?_
    cases h
    exact ok_iret dX11_canStand_21 (hQ (Or.inl rfl))
  · have h := (if_neg hc1).symm.trans h
    refine ok_iload_n dX11_canStand_4 1 rfl ?_
    refine ok_iconst (v := 1) dX11_canStand_5 (by decide) ?_
    refine ok_aload_n dX11_canStand_6 0 rfl ?_
    have hT2 : Z[(rO O a0 0)]? = some (9, 10) := (wt_f (ci := 11) (k := 0) hW hZ0 rfl).2
    refine ok_getR (ci := 11) (k := 0) dX11_canStand_7 flRX11_10 rfl hW hZ0 (by decide) ?_
    have hT3 : Z[(rO O (rO O a0 0) 0)]? = some (10, 5) := (wt_f (ci := 9) (k := 0) hW hT2 rfl).2
    refine ok_getR (ci := 9) (k := 0) dX11_canStand_10 flRX11_79 rfl hW hT2 (by decide) ?_
    refine ok_getI (ci := 10) (k := 3) dX11_canStand_13 flRX11_256 rfl hT3 (by decide) ?_
    refine ok_ishl dX11_canStand_16 ?_
    refine ok_icmp_lt (t := 22) dX11_canStand_17 (by decide) (fun hc4 => ?_) (fun hc4 => ?_)
    · have h := (if_pos hc4).symm.trans h
      refine ok_iconst (v := 0) dX11_canStand_22 (by decide) ?_
      refine ok_istore_n (l' := [(2, .int 0), (0, .ref a0), (1, .int x1)]) dX11_canStand_23 rfl (Nat.le_of_ble_eq_true rfl) rfl ?_
      refine ok_sub [1, 2, 0] rfl ?_
      exact o11_canStand_c24 d hW hQ  n a0 x1 (0 : Int32) hZ0 h
    · have h := (if_neg hc4).symm.trans h
      refine ok_iconst (v := 0) dX11_canStand_20 (by decide) ?_
      cases h
      exact ok_iret dX11_canStand_21 (hQ (Or.inl rfl))
theorem k11_canStand {g : pG} {Q : Option Value → pW → Prop} {Z : pZ} {I : (Nat → Nat → Int32)} {L : (Nat → Nat → Int64)} {O : (Nat → Nat → Option Nat)} {n : Nat} {a0 : Nat} {x1 : Int32} {res : Int32} (d : Nat) (hW : WT Z O) (hZ0 : Z[a0]? = some (11, 11)) (h : f11_canStand n I O a0 x1 = some res) (hQ : Q (some (.int res)) (Z, I, L, O)) : CT g (d + 5) m11_canStand 0 0 [.ref a0, .int x1] (Z, I, L, O) Q :=
  ct_of_ok (mt := m11_canStand) (ini := false) mo11_canStand.2.2.2.2 (fun h => by cases h) (Nat.le_of_ble_eq_true rfl) (o11_canStand d hW hZ0 h (fun hb => ⟨hb, hQ, rfl, rfl⟩))
theorem dX11_stair_0 : decode cX11_stair 0 = .ok (.aload_n 0, 1) := by decide +kernel
theorem dX11_stair_1 : decode cX11_stair 1 = .ok (.iload_n 1, 1) := by decide +kernel
theorem dX11_stair_2 : decode cX11_stair 2 = .ok (.invokevirtual 313, 3) := by decide +kernel
theorem dX11_stair_5 : decode cX11_stair 5 = .ok (.ifCond .eq 16, 3) := by decide +kernel
theorem dX11_stair_8 : decode cX11_stair 8 = .ok (.iload_n 2, 1) := by decide +kernel
theorem dX11_stair_9 : decode cX11_stair 9 = .ok (.iconst (-1), 1) := by decide +kernel
theorem dX11_stair_10 : decode cX11_stair 10 = .ok (.if_icmp .lt 11, 3) := by decide +kernel
theorem dX11_stair_13 : decode cX11_stair 13 = .ok (.iload_n 2, 1) := by decide +kernel
theorem dX11_stair_14 : decode cX11_stair 14 = .ok (.iload_n 1, 1) := by decide +kernel
theorem dX11_stair_15 : decode cX11_stair 15 = .ok (.invokestatic 316, 3) := by decide +kernel
theorem dX11_stair_18 : decode cX11_stair 18 = .ok (.if_icmp .lt 6, 3) := by decide +kernel
theorem dX11_stair_21 : decode cX11_stair 21 = .ok (.bipush (-2), 2) := by decide +kernel
theorem dX11_stair_23 : decode cX11_stair 23 = .ok (.ireturn, 1) := by decide +kernel
theorem dX11_stair_24 : decode cX11_stair 24 = .ok (.aload_n 0, 1) := by decide +kernel
theorem dX11_stair_25 : decode cX11_stair 25 = .ok (.getfield 58, 3) := by decide +kernel
theorem dX11_stair_28 : decode cX11_stair 28 = .ok (.aload_n 0, 1) := by decide +kernel
theorem dX11_stair_29 : decode cX11_stair 29 = .ok (.getfield 10, 3) := by decide +kernel
theorem dX11_stair_32 : decode cX11_stair 32 = .ok (.getfield 79, 3) := by decide +kernel
theorem dX11_stair_35 : decode cX11_stair 35 = .ok (.iload_n 1, 1) := by decide +kernel
theorem dX11_stair_36 : decode cX11_stair 36 = .ok (.invokevirtual 321, 3) := by decide +kernel
theorem dX11_stair_39 : decode cX11_stair 39 = .ok (.istore_n 3, 1) := by decide +kernel
theorem dX11_stair_40 : decode cX11_stair 40 = .ok (.iload_n 2, 1) := by decide +kernel
theorem dX11_stair_41 : decode cX11_stair 41 = .ok (.iconst (-1), 1) := by decide +kernel
theorem dX11_stair_42 : decode cX11_stair 42 = .ok (.if_icmp .ne 7, 3) := by decide +kernel
theorem dX11_stair_45 : decode cX11_stair 45 = .ok (.iload_n 3, 1) := by decide +kernel
theorem dX11_stair_46 : decode cX11_stair 46 = .ok (.goto 11, 3) := by decide +kernel
theorem dX11_stair_49 : decode cX11_stair 49 = .ok (.aload_n 0, 1) := by decide +kernel
theorem dX11_stair_50 : decode cX11_stair 50 = .ok (.getfield 58, 3) := by decide +kernel
theorem dX11_stair_53 : decode cX11_stair 53 = .ok (.iload_n 2, 1) := by decide +kernel
theorem dX11_stair_54 : decode cX11_stair 54 = .ok (.invokevirtual 325, 3) := by decide +kernel
theorem dX11_stair_57 : decode cX11_stair 57 = .ok (.ireturn, 1) := by decide +kernel
def m11_stair : pMT := (yX11_stair, cX11_stair, 4, some .int)
theorem mo11_stair : mOK m11_stair 2 := ⟨tb_i 1107 (by decide +kernel), wi_RX11, ⟨wn_RX11.1, wn_RX11.2, by decide +kernel⟩, by decide, plainFor_of_name wp_RX11⟩
theorem mv11_stair : mV m11_stair := ⟨tb_i 1105 (by decide +kernel), tb_i 1106 (by decide +kernel)⟩
def f11_stair (n : Nat) (I : (Nat → Nat → Int32)) (O : (Nat → Nat → Option Nat)) (a0 : Nat) (x1 : Int32) (x2 : Int32) : Option (Int32 × (Nat → Nat → Int32)) := (f11_canStand n I O a0 x1).bind fun r1 => (if r1 = 0 then some (((-2) : Int32), I) else (if x2 < (-1 : Int32) then some (((-2) : Int32), I) else (fJ6_bitCount_0f7a4 x1).bind fun r5 => (if x2 < r5 then (f2_buildStair n I O (rO O a0 8) (rO O (rO O a0 0) 0) x1).bind fun r11 => (if x2 = (-1 : Int32) then some (r11.1, r11.2) else (f2_stairRoll r11.2 O (rO O a0 8) x2).bind fun r14 => some (r14, r11.2)) else some (((-2) : Int32), I))))
set_option maxHeartbeats 4000000 in
set_option maxRecDepth 20000 in
theorem o11_stair {g : pG} {Qx : Option Value → pW → Prop} {Z : pZ} {I : (Nat → Nat → Int32)} {L : (Nat → Nat → Int64)} {O : (Nat → Nat → Option Nat)} {n : Nat} {a0 : Nat} {x1 : Int32} {x2 : Int32} {res : Int32 × (Nat → Nat → Int32)} (d : Nat) (hW : WT Z O) (hZ0 : Z[a0]? = some (11, 11)) (h : f11_stair n I O a0 x1 x2 = some res) (hQ : Qx (some (.int res.1)) (Z, res.2, L, O)) : Ok g (d + 18, RX11, cX11_stair, 4, false, 0, 0, Z.length, pSl Z) Qx 0 [(0, .ref a0), (1, .int x1), (2, .int x2)] [] (Z, I, L, O) := by
  unfold f11_stair at h
  refine ok_aload_n dX11_stair_0 0 rfl ?_
  refine ok_iload_n dX11_stair_1 1 rfl ?_
  obtain ⟨r1, hr2, h⟩ := bd h
  refine ok_callV (d := ((d + 12) + 5)) (mt := m11_canStand) (mc := 0) (ms := 0) (As := [.int x1]) (r := []) dX11_stair_2 mo11_canStand mv11_canStand lkRX11_313 rfl hZ0 (q := (RX11, TX11, 11)) rfl rfl rfl (Nat.le_of_ble_eq_true rfl) (by show _ + 1 ≤ d + _; omega) (Nat.le_refl _) (Nat.le_refl _) (pRt_mono ?_)
  refine k11_canStand (d + 12) hW hZ0 hr2 ?_
  intro hbr1
  show Ok g _ Qx 5 [(0, .ref a0), (1, .int x1), (2, .int x2)] [.int r1] (Z, I, L, O)
  refine ok_if_eq (t := 21) dX11_stair_5 (by decide) (fun hc3 => ?_) (fun hc3 => ?_)
  · have h := (if_pos hc3).symm.trans h
    refine ok_bipush (v := (-2)) dX11_stair_21 (by decide) ?_
    cases h
    exact ok_iret dX11_stair_23 hQ
  · have h := (if_neg hc3).symm.trans h
    refine ok_iload_n dX11_stair_8 2 rfl ?_
    refine ok_iconst (v := (-1)) dX11_stair_9 (by decide) ?_
    refine ok_icmp_lt (t := 21) dX11_stair_10 (by decide) (fun hc4 => ?_) (fun hc4 => ?_)
    · have h := (if_pos hc4).symm.trans h
      refine ok_bipush (v := (-2)) dX11_stair_21 (by decide) ?_
      cases h
      exact ok_iret dX11_stair_23 hQ
    · have h := (if_neg hc4).symm.trans h
      refine ok_iload_n dX11_stair_13 2 rfl ?_
      refine ok_iload_n dX11_stair_14 1 rfl ?_
      obtain ⟨r5, hr6, h⟩ := bd h
      refine ok_callS (d := ((d + 15) + 2)) (mt := mJ6_bitCount_0f7a4) (mc := 0) (ms := 0) (As := [.int x1]) (r := [.int x2]) dX11_stair_15 moJ6_bitCount_0f7a4 mvJ6_bitCount_0f7a4 lkRX11_316 rfl rfl (Nat.le_of_ble_eq_true rfl) (by show _ + 1 ≤ d + _; omega) (Nat.le_refl _) (Nat.le_refl _) (pRt_mono ?_)
      refine kJ6_bitCount_0f7a4 (d + 15) hW  hr6 ?_
      intro _
      show Ok g _ Qx 18 [(0, .ref a0), (1, .int x1), (2, .int x2)] [.int r5, .int x2] (Z, I, L, O)
      refine ok_icmp_lt (t := 24) dX11_stair_18 (by decide) (fun hc7 => ?_) (fun hc7 => ?_)
      · have h := (if_pos hc7).symm.trans h
        refine ok_aload_n dX11_stair_24 0 rfl ?_
        have hT8 : Z[(rO O a0 8)]? = some (2, 10) := (wt_f (ci := 11) (k := 8) hW hZ0 rfl).2
        refine ok_getR (ci := 11) (k := 8) dX11_stair_25 flRX11_58 rfl hW hZ0 (by decide) ?_
        refine ok_aload_n dX11_stair_28 0 rfl ?_
        have hT9 : Z[(rO O a0 0)]? = some (9, 10) := (wt_f (ci := 11) (k := 0) hW hZ0 rfl).2
        refine ok_getR (ci := 11) (k := 0) dX11_stair_29 flRX11_10 rfl hW hZ0 (by decide) ?_
        have hT10 : Z[(rO O (rO O a0 0) 0)]? = some (10, 5) := (wt_f (ci := 9) (k := 0) hW hT9 rfl).2
        refine ok_getR (ci := 9) (k := 0) dX11_stair_32 flRX11_79 rfl hW hT9 (by decide) ?_
        refine ok_iload_n dX11_stair_35 1 rfl ?_
        obtain ⟨r11, hr12, h⟩ := bd h
        refine ok_callV (d := ((d + 0) + 17)) (mt := m2_buildStair) (mc := 0) (ms := 0) (As := [.ref (rO O (rO O a0 0) 0), .int x1]) (r := []) dX11_stair_36 mo2_buildStair mv2_buildStair lkRX11_321 rfl hT8 (q := (RX2, TX2, 10)) rfl rfl rfl (Nat.le_of_ble_eq_true rfl) (by show _ + 1 ≤ d + _; omega) (Nat.le_refl _) (Nat.le_refl _) (pRt_mono ?_)
        refine k2_buildStair (d + 0) hW hT8 hT10 hr12 ?_
        intro _
        show Ok g _ Qx 39 [(0, .ref a0), (1, .int x1), (2, .int x2)] [.int r11.1] (Z, r11.2, L, O)
        refine ok_istore_n (l' := [(3, .int r11.1), (0, .ref a0), (1, .int x1), (2, .int x2)]) dX11_stair_39 rfl (Nat.le_of_ble_eq_true rfl) rfl ?_
        refine ok_iload_n dX11_stair_40 3 rfl ?_
        refine ok_iconst (v := (-1)) dX11_stair_41 (by decide) ?_
        refine ok_icmp_ne (t := 49) dX11_stair_42 (by decide) (fun hc13 => ?_) (fun hc13 => ?_)
        · have h := (if_neg hc13).symm.trans h
          refine ok_aload_n dX11_stair_49 1 rfl ?_
          refine ok_getR (ci := 11) (k := 8) dX11_stair_50 flRX11_58 rfl hW hZ0 (by decide) ?_
          refine ok_iload_n dX11_stair_53 3 rfl ?_
          obtain ⟨r14, hr15, h⟩ := bd h
          refine ok_callV (d := ((d + 15) + 2)) (mt := m2_stairRoll) (mc := 0) (ms := 0) (As := [.int x2]) (r := []) dX11_stair_54 mo2_stairRoll mv2_stairRoll lkRX11_325 rfl hT8 (q := (RX2, TX2, 10)) rfl rfl rfl (Nat.le_of_ble_eq_true rfl) (by show _ + 1 ≤ d + _; omega) (Nat.le_refl _) (Nat.le_refl _) (pRt_mono ?_)
          refine k2_stairRoll (d + 15) hW hT8 hr15 ?_
          intro _
          show Ok g _ Qx 57 [(3, .int r11.1), (0, .ref a0), (1, .int x1), (2, .int x2)] [.int r14] (Z, r11.2, L, O)
          cases h
          exact ok_iret dX11_stair_57 hQ
        · have h := (if_pos hc13).symm.trans h
          refine ok_iload_n dX11_stair_45 0 rfl ?_
          refine ok_goto (t := 57) dX11_stair_46 (by decide) ?_
          cases h
          exact ok_iret dX11_stair_57 hQ
      · have h := (if_neg hc7).symm.trans h
        refine ok_bipush (v := (-2)) dX11_stair_21 (by decide) ?_
        cases h
        exact ok_iret dX11_stair_23 hQ
theorem k11_stair {g : pG} {Q : Option Value → pW → Prop} {Z : pZ} {I : (Nat → Nat → Int32)} {L : (Nat → Nat → Int64)} {O : (Nat → Nat → Option Nat)} {n : Nat} {a0 : Nat} {x1 : Int32} {x2 : Int32} {res : Int32 × (Nat → Nat → Int32)} (d : Nat) (hW : WT Z O) (hZ0 : Z[a0]? = some (11, 11)) (h : f11_stair n I O a0 x1 x2 = some res) (hQ : Q (some (.int res.1)) (Z, res.2, L, O)) : CT g (d + 18) m11_stair 0 0 [.ref a0, .int x1, .int x2] (Z, I, L, O) Q :=
  ct_of_ok (mt := m11_stair) (ini := false) mo11_stair.2.2.2.2 (fun h => by cases h) (Nat.le_of_ble_eq_true rfl) (o11_stair d hW hZ0 h ⟨trivial, hQ, rfl, rfl⟩)
theorem dX11_fills_0 : decode cX11_fills 0 = .ok (.aload_n 0, 1) := by decide +kernel
theorem dX11_fills_1 : decode cX11_fills 1 = .ok (.getfield 10, 3) := by decide +kernel
theorem dX11_fills_4 : decode cX11_fills 4 = .ok (.getfield 79, 3) := by decide +kernel
theorem dX11_fills_7 : decode cX11_fills 7 = .ok (.iload_n 1, 1) := by decide +kernel
theorem dX11_fills_8 : decode cX11_fills 8 = .ok (.invokevirtual 152, 3) := by decide +kernel
theorem dX11_fills_11 : decode cX11_fills 11 = .ok (.ifCond .eq 21, 3) := by decide +kernel
theorem dX11_fills_14 : decode cX11_fills 14 = .ok (.aload_n 0, 1) := by decide +kernel
theorem dX11_fills_15 : decode cX11_fills 15 = .ok (.getfield 10, 3) := by decide +kernel
theorem dX11_fills_18 : decode cX11_fills 18 = .ok (.getfield 79, 3) := by decide +kernel
theorem dX11_fills_21 : decode cX11_fills 21 = .ok (.iload_n 1, 1) := by decide +kernel
theorem dX11_fills_22 : decode cX11_fills 22 = .ok (.invokevirtual 231, 3) := by decide +kernel
theorem dX11_fills_25 : decode cX11_fills 25 = .ok (.invokestatic 316, 3) := by decide +kernel
theorem dX11_fills_28 : decode cX11_fills 28 = .ok (.iconst 4, 1) := by decide +kernel
theorem dX11_fills_29 : decode cX11_fills 29 = .ok (.if_icmp .le 7, 3) := by decide +kernel
theorem dX11_fills_32 : decode cX11_fills 32 = .ok (.ldc2_w 328, 3) := by decide +kernel
theorem dX11_fills_35 : decode cX11_fills 35 = .ok (.lreturn, 1) := by decide +kernel
theorem dX11_fills_36 : decode cX11_fills 36 = .ok (.aload_n 0, 1) := by decide +kernel
theorem dX11_fills_37 : decode cX11_fills 37 = .ok (.getfield 58, 3) := by decide +kernel
theorem dX11_fills_40 : decode cX11_fills 40 = .ok (.aload_n 0, 1) := by decide +kernel
theorem dX11_fills_41 : decode cX11_fills 41 = .ok (.getfield 10, 3) := by decide +kernel
theorem dX11_fills_44 : decode cX11_fills 44 = .ok (.iload_n 1, 1) := by decide +kernel
theorem dX11_fills_45 : decode cX11_fills 45 = .ok (.invokevirtual 330, 3) := by decide +kernel
theorem dX11_fills_48 : decode cX11_fills 48 = .ok (.lreturn, 1) := by decide +kernel
def m11_fills : pMT := (yX11_fills, cX11_fills, 2, some .long)
theorem mo11_fills : mOK m11_fills 1 := ⟨tb_i 1142 (by decide +kernel), wi_RX11, ⟨wn_RX11.1, wn_RX11.2, by decide +kernel⟩, by decide, plainFor_of_name wp_RX11⟩
theorem mv11_fills : mV m11_fills := ⟨tb_i 1140 (by decide +kernel), tb_i 1141 (by decide +kernel)⟩
def f11_fills (n : Nat) (I : (Nat → Nat → Int32)) (O : (Nat → Nat → Option Nat)) (a0 : Nat) (x1 : Int32) : Option (Int64 × (Nat → Nat → Int32)) := (f10_hasRoll I (rO O (rO O a0 0) 0) x1).bind fun r3 => (if r3 = 0 then some (((-1) : Int64), I) else (f10_tornPlaces n I O (rO O (rO O a0 0) 0) x1).bind fun r6 => (fJ6_bitCount_0f7a4 r6).bind fun r8 => (if r8 ≤ (4 : Int32) then (f2_waysToFill n I O (rO O a0 8) (rO O a0 0) x1).bind fun r12 => some (r12.1, r12.2) else some (((-1) : Int64), I)))
set_option maxHeartbeats 4000000 in
set_option maxRecDepth 20000 in
theorem o11_fills {g : pG} {Qx : Option Value → pW → Prop} {Z : pZ} {I : (Nat → Nat → Int32)} {L : (Nat → Nat → Int64)} {O : (Nat → Nat → Option Nat)} {n : Nat} {a0 : Nat} {x1 : Int32} {res : Int64 × (Nat → Nat → Int32)} (d : Nat) (hW : WT Z O) (hZ0 : Z[a0]? = some (11, 11)) (h : f11_fills n I O a0 x1 = some res) (hQ : Qx (some (.long res.1)) (Z, res.2, L, O)) : Ok g (d + 6, RX11, cX11_fills, 2, false, 0, 0, Z.length, pSl Z) Qx 0 [(0, .ref a0), (1, .int x1)] [] (Z, I, L, O) := by
  unfold f11_fills at h
  refine ok_aload_n dX11_fills_0 0 rfl ?_
  have hT1 : Z[(rO O a0 0)]? = some (9, 10) := (wt_f (ci := 11) (k := 0) hW hZ0 rfl).2
  refine ok_getR (ci := 11) (k := 0) dX11_fills_1 flRX11_10 rfl hW hZ0 (by decide) ?_
  have hT2 : Z[(rO O (rO O a0 0) 0)]? = some (10, 5) := (wt_f (ci := 9) (k := 0) hW hT1 rfl).2
  refine ok_getR (ci := 9) (k := 0) dX11_fills_4 flRX11_79 rfl hW hT1 (by decide) ?_
  refine ok_iload_n dX11_fills_7 1 rfl ?_
  obtain ⟨r3, hr4, h⟩ := bd h
  refine ok_callV (d := ((d + 3) + 2)) (mt := m10_hasRoll) (mc := 0) (ms := 0) (As := [.int x1]) (r := []) dX11_fills_8 mo10_hasRoll mv10_hasRoll lkRX11_152 rfl hT2 (q := (RX10, TX10, 5)) rfl rfl rfl (Nat.le_of_ble_eq_true rfl) (by show _ + 1 ≤ d + _; omega) (Nat.le_refl _) (Nat.le_refl _) (pRt_mono ?_)
  refine k10_hasRoll (d + 3) hW hT2 hr4 ?_
  intro hbr3
  show Ok g _ Qx 11 [(0, .ref a0), (1, .int x1)] [.int r3] (Z, I, L, O)
  refine ok_if_eq (t := 32) dX11_fills_11 (by decide) (fun hc5 => ?_) (fun hc5 => ?_)
  · have h := (if_pos hc5).symm.trans h
    refine ok_ldc2 (v := (-1)) dX11_fills_32 (tb_i (c := Cond.constantLong RX11 328 (-1)) 1143 (by decide +kernel)) ?_
    cases h
    exact ok_lret dX11_fills_35 hQ
  · have h := (if_neg hc5).symm.trans h
    refine ok_aload_n dX11_fills_14 0 rfl ?_
    refine ok_getR (ci := 11) (k := 0) dX11_fills_15 flRX11_10 rfl hW hZ0 (by decide) ?_
    refine ok_getR (ci := 9) (k := 0) dX11_fills_18 flRX11_79 rfl hW hT1 (by decide) ?_
    refine ok_iload_n dX11_fills_21 1 rfl ?_
    obtain ⟨r6, hr7, h⟩ := bd h
    refine ok_callV (d := ((d + 1) + 4)) (mt := m10_tornPlaces) (mc := 0) (ms := 0) (As := [.int x1]) (r := []) dX11_fills_22 mo10_tornPlaces mv10_tornPlaces lkRX11_231 rfl hT2 (q := (RX10, TX10, 5)) rfl rfl rfl (Nat.le_of_ble_eq_true rfl) (by show _ + 1 ≤ d + _; omega) (Nat.le_refl _) (Nat.le_refl _) (pRt_mono ?_)
    refine k10_tornPlaces (d + 1) hW hT2 hr7 ?_
    intro _
    show Ok g _ Qx 25 [(0, .ref a0), (1, .int x1)] [.int r6] (Z, I, L, O)
    obtain ⟨r8, hr9, h⟩ := bd h
    refine ok_callS (d := ((d + 3) + 2)) (mt := mJ6_bitCount_0f7a4) (mc := 0) (ms := 0) (As := [.int r6]) (r := []) dX11_fills_25 moJ6_bitCount_0f7a4 mvJ6_bitCount_0f7a4 lkRX11_316 rfl rfl (Nat.le_of_ble_eq_true rfl) (by show _ + 1 ≤ d + _; omega) (Nat.le_refl _) (Nat.le_refl _) (pRt_mono ?_)
    refine kJ6_bitCount_0f7a4 (d + 3) hW  hr9 ?_
    intro _
    show Ok g _ Qx 28 [(0, .ref a0), (1, .int x1)] [.int r8] (Z, I, L, O)
    refine ok_iconst (v := 4) dX11_fills_28 (by decide) ?_
    refine ok_icmp_le (t := 36) dX11_fills_29 (by decide) (fun hc10 => ?_) (fun hc10 => ?_)
    · have h := (if_pos hc10).symm.trans h
      refine ok_aload_n dX11_fills_36 0 rfl ?_
      have hT11 : Z[(rO O a0 8)]? = some (2, 10) := (wt_f (ci := 11) (k := 8) hW hZ0 rfl).2
      refine ok_getR (ci := 11) (k := 8) dX11_fills_37 flRX11_58 rfl hW hZ0 (by decide) ?_
      refine ok_aload_n dX11_fills_40 0 rfl ?_
      refine ok_getR (ci := 11) (k := 0) dX11_fills_41 flRX11_10 rfl hW hZ0 (by decide) ?_
      refine ok_iload_n dX11_fills_44 1 rfl ?_
      obtain ⟨r12, hr13, h⟩ := bd h
      refine ok_callV (d := ((d + 0) + 5)) (mt := m2_waysToFill) (mc := 0) (ms := 0) (As := [.ref (rO O a0 0), .int x1]) (r := []) dX11_fills_45 mo2_waysToFill mv2_waysToFill lkRX11_330 rfl hT11 (q := (RX2, TX2, 10)) rfl rfl rfl (Nat.le_of_ble_eq_true rfl) (by show _ + 1 ≤ d + _; omega) (Nat.le_refl _) (Nat.le_refl _) (pRt_mono ?_)
      refine k2_waysToFill (d + 0) hW hT11 hT1 hr13 ?_
      intro _
      show Ok g _ Qx 48 [(0, .ref a0), (1, .int x1)] [.long r12.1] (Z, r12.2, L, O)
      cases h
      exact ok_lret dX11_fills_48 hQ
    · have h := (if_neg hc10).symm.trans h
      refine ok_ldc2 (v := (-1)) dX11_fills_32 (tb_i (c := Cond.constantLong RX11 328 (-1)) 1143 (by decide +kernel)) ?_
      cases h
      exact ok_lret dX11_fills_35 hQ
theorem k11_fills {g : pG} {Q : Option Value → pW → Prop} {Z : pZ} {I : (Nat → Nat → Int32)} {L : (Nat → Nat → Int64)} {O : (Nat → Nat → Option Nat)} {n : Nat} {a0 : Nat} {x1 : Int32} {res : Int64 × (Nat → Nat → Int32)} (d : Nat) (hW : WT Z O) (hZ0 : Z[a0]? = some (11, 11)) (h : f11_fills n I O a0 x1 = some res) (hQ : Q (some (.long res.1)) (Z, res.2, L, O)) : CT g (d + 6) m11_fills 0 0 [.ref a0, .int x1] (Z, I, L, O) Q :=
  ct_of_ok (mt := m11_fills) (ini := false) mo11_fills.2.2.2.2 (fun h => by cases h) (Nat.le_of_ble_eq_true rfl) (o11_fills d hW hZ0 h ⟨trivial, hQ, rfl, rfl⟩)
theorem dX11_teaches_0 : decode cX11_teaches 0 = .ok (.aload_n 0, 1) := by decide +kernel
theorem dX11_teaches_1 : decode cX11_teaches 1 = .ok (.getfield 10, 3) := by decide +kernel
theorem dX11_teaches_4 : decode cX11_teaches 4 = .ok (.getfield 79, 3) := by decide +kernel
theorem dX11_teaches_7 : decode cX11_teaches 7 = .ok (.iload_n 1, 1) := by decide +kernel
theorem dX11_teaches_8 : decode cX11_teaches 8 = .ok (.invokevirtual 156, 3) := by decide +kernel
theorem dX11_teaches_11 : decode cX11_teaches 11 = .ok (.ifCond .eq 19, 3) := by decide +kernel
theorem dX11_teaches_14 : decode cX11_teaches 14 = .ok (.iload_n 2, 1) := by decide +kernel
theorem dX11_teaches_15 : decode cX11_teaches 15 = .ok (.ifCond .lt 15, 3) := by decide +kernel
theorem dX11_teaches_18 : decode cX11_teaches 18 = .ok (.iload_n 2, 1) := by decide +kernel
theorem dX11_teaches_19 : decode cX11_teaches 19 = .ok (.bipush 64, 2) := by decide +kernel
theorem dX11_teaches_21 : decode cX11_teaches 21 = .ok (.if_icmp .ge 9, 3) := by decide +kernel
theorem dX11_teaches_24 : decode cX11_teaches 24 = .ok (.iload_n 2, 1) := by decide +kernel
theorem dX11_teaches_25 : decode cX11_teaches 25 = .ok (.iconst 1, 1) := by decide +kernel
theorem dX11_teaches_26 : decode cX11_teaches 26 = .ok (.iand, 1) := by decide +kernel
theorem dX11_teaches_27 : decode cX11_teaches 27 = .ok (.ifCond .eq 6, 3) := by decide +kernel
theorem dX11_teaches_30 : decode cX11_teaches 30 = .ok (.bipush (-2), 2) := by decide +kernel
theorem dX11_teaches_32 : decode cX11_teaches 32 = .ok (.ireturn, 1) := by decide +kernel
theorem dX11_teaches_33 : decode cX11_teaches 33 = .ok (.iload_n 3, 1) := by decide +kernel
theorem dX11_teaches_34 : decode cX11_teaches 34 = .ok (.iconst (-1), 1) := by decide +kernel
theorem dX11_teaches_35 : decode cX11_teaches 35 = .ok (.if_icmp .eq 20, 3) := by decide +kernel
theorem dX11_teaches_38 : decode cX11_teaches 38 = .ok (.aload_n 0, 1) := by decide +kernel
theorem dX11_teaches_39 : decode cX11_teaches 39 = .ok (.getfield 10, 3) := by decide +kernel
theorem dX11_teaches_42 : decode cX11_teaches 42 = .ok (.getfield 79, 3) := by decide +kernel
theorem dX11_teaches_45 : decode cX11_teaches 45 = .ok (.iload_n 3, 1) := by decide +kernel
theorem dX11_teaches_46 : decode cX11_teaches 46 = .ok (.invokevirtual 152, 3) := by decide +kernel
theorem dX11_teaches_49 : decode cX11_teaches 49 = .ok (.ifCond .ne 6, 3) := by decide +kernel
theorem dX11_teaches_52 : decode cX11_teaches 52 = .ok (.bipush (-2), 2) := by decide +kernel
theorem dX11_teaches_54 : decode cX11_teaches 54 = .ok (.ireturn, 1) := by decide +kernel
theorem dX11_teaches_55 : decode cX11_teaches 55 = .ok (.aload_n 0, 1) := by decide +kernel
theorem dX11_teaches_56 : decode cX11_teaches 56 = .ok (.getfield 65, 3) := by decide +kernel
theorem dX11_teaches_59 : decode cX11_teaches 59 = .ok (.aload_n 0, 1) := by decide +kernel
theorem dX11_teaches_60 : decode cX11_teaches 60 = .ok (.getfield 10, 3) := by decide +kernel
theorem dX11_teaches_63 : decode cX11_teaches 63 = .ok (.getfield 79, 3) := by decide +kernel
theorem dX11_teaches_66 : decode cX11_teaches 66 = .ok (.aload_n 0, 1) := by decide +kernel
theorem dX11_teaches_67 : decode cX11_teaches 67 = .ok (.invokevirtual 162, 3) := by decide +kernel
theorem dX11_teaches_70 : decode cX11_teaches 70 = .ok (.iload_n 1, 1) := by decide +kernel
theorem dX11_teaches_71 : decode cX11_teaches 71 = .ok (.iload_n 2, 1) := by decide +kernel
theorem dX11_teaches_72 : decode cX11_teaches 72 = .ok (.invokevirtual 334, 3) := by decide +kernel
theorem dX11_teaches_75 : decode cX11_teaches 75 = .ok (.istore 4, 2) := by decide +kernel
theorem dX11_teaches_77 : decode cX11_teaches 77 = .ok (.iload 4, 2) := by decide +kernel
theorem dX11_teaches_79 : decode cX11_teaches 79 = .ok (.iconst (-1), 1) := by decide +kernel
theorem dX11_teaches_80 : decode cX11_teaches 80 = .ok (.if_icmp .ne 6, 3) := by decide +kernel
theorem dX11_teaches_83 : decode cX11_teaches 83 = .ok (.bipush (-2), 2) := by decide +kernel
theorem dX11_teaches_85 : decode cX11_teaches 85 = .ok (.ireturn, 1) := by decide +kernel
theorem dX11_teaches_86 : decode cX11_teaches 86 = .ok (.iload_n 3, 1) := by decide +kernel
theorem dX11_teaches_87 : decode cX11_teaches 87 = .ok (.iconst (-1), 1) := by decide +kernel
theorem dX11_teaches_88 : decode cX11_teaches 88 = .ok (.if_icmp .ne 8, 3) := by decide +kernel
theorem dX11_teaches_91 : decode cX11_teaches 91 = .ok (.iload 4, 2) := by decide +kernel
theorem dX11_teaches_93 : decode cX11_teaches 93 = .ok (.goto 11, 3) := by decide +kernel
theorem dX11_teaches_96 : decode cX11_teaches 96 = .ok (.aload_n 0, 1) := by decide +kernel
theorem dX11_teaches_97 : decode cX11_teaches 97 = .ok (.getfield 65, 3) := by decide +kernel
theorem dX11_teaches_100 : decode cX11_teaches 100 = .ok (.iload_n 3, 1) := by decide +kernel
theorem dX11_teaches_101 : decode cX11_teaches 101 = .ok (.invokevirtual 337, 3) := by decide +kernel
theorem dX11_teaches_104 : decode cX11_teaches 104 = .ok (.ireturn, 1) := by decide +kernel
def m11_teaches : pMT := (yX11_teaches, cX11_teaches, 5, some .int)
theorem mo11_teaches : mOK m11_teaches 3 := ⟨tb_i 1161 (by decide +kernel), wi_RX11, ⟨wn_RX11.1, wn_RX11.2, by decide +kernel⟩, by decide, plainFor_of_name wp_RX11⟩
theorem mv11_teaches : mV m11_teaches := ⟨tb_i 1159 (by decide +kernel), tb_i 1160 (by decide +kernel)⟩
def f11_teaches_c55 (n : Nat) (O : (Nat → Nat → Option Nat)) (I : (Nat → Nat → Int32)) (b0 : Nat) (y1 : Int32) (y2 : Int32) (y3 : Int32) : Option (Int32 × (Nat → Nat → Int32)) := (f11_ruling I O b0).bind fun r4 => (f6_teach n I O (rO O b0 9) (rO O (rO O b0 0) 0) r4 y1 y2).bind fun r6 => (if r6.1 = (-1 : Int32) then some (((-2) : Int32), r6.2) else (if y3 = (-1 : Int32) then some (r6.1, r6.2) else (f6_timesOf r6.2 O (rO O b0 9) y3).bind fun r10 => some (r10, r6.2)))
set_option maxHeartbeats 4000000 in
set_option maxRecDepth 20000 in
theorem o11_teaches_c55 {g : pG} {Qx : Option Value → pW → Prop} {Z : pZ} {L : (Nat → Nat → Int64)} {O : (Nat → Nat → Option Nat)} {n : Nat} {res : Int32 × (Nat → Nat → Int32)} (d : Nat) (hW : WT Z O) (hQ : Qx (some (.int res.1)) (Z, res.2, L, O)) (I : (Nat → Nat → Int32)) (b0 : Nat) (y1 : Int32) (y2 : Int32) (y3 : Int32) (hZ_b0 : Z[b0]? = some (11, 11)) (h : f11_teaches_c55 n O I b0 y1 y2 y3 = some res) : Ok g (d + 19, RX11, cX11_teaches, 5, false, 0, 0, Z.length, pSl Z) Qx 55 [(0, .ref b0), (1, .int y1), (2, .int y2), (3, .int y3)] [] (Z, I, L, O) := by
  unfold f11_teaches_c55 at h
  refine ok_aload_n dX11_teaches_55 0 rfl ?_
  have hT1 : Z[(rO O b0 9)]? = some (6, 5) := (wt_f (ci := 11) (k := 9) hW hZ_b0 rfl).2
  refine ok_getR (ci := 11) (k := 9) dX11_teaches_56 flRX11_65 rfl hW hZ_b0 (by decide) ?_
  refine ok_aload_n dX11_teaches_59 0 rfl ?_
  have hT2 : Z[(rO O b0 0)]? = some (9, 10) := (wt_f (ci := 11) (k := 0) hW hZ_b0 rfl).2
  refine ok_getR (ci := 11) (k := 0) dX11_teaches_60 flRX11_10 rfl hW hZ_b0 (by decide) ?_
  have hT3 : Z[(rO O (rO O b0 0) 0)]? = some (10, 5) := (wt_f (ci := 9) (k := 0) hW hT2 rfl).2
  refine ok_getR (ci := 9) (k := 0) dX11_teaches_63 flRX11_79 rfl hW hT2 (by decide) ?_
  refine ok_aload_n dX11_teaches_66 0 rfl ?_
  obtain ⟨r4, hr5, h⟩ := bd h
  have hSr4 := t11_ruling hW hZ_b0 hr5
  refine ok_callV (d := ((d + 15) + 3)) (mt := m11_ruling) (mc := 0) (ms := 0) (As := []) (r := [.ref (rO O (rO O b0 0) 0), .ref (rO O b0 9)]) dX11_teaches_67 mo11_ruling mv11_ruling lkRX11_162 rfl hZ_b0 (q := (RX11, TX11, 11)) rfl rfl rfl (Nat.le_of_ble_eq_true rfl) (by show _ + 1 ≤ d + _; omega) (Nat.le_refl _) (Nat.le_refl _) (pRt_mono ?_)
  refine k11_ruling (d + 15) hW hZ_b0 hr5 ?_
  intro _
  show Ok g _ Qx 70 [(0, .ref b0), (1, .int y1), (2, .int y2), (3, .int y3)] [va_rf r4, .ref (rO O (rO O b0 0) 0), .ref (rO O b0 9)] (Z, I, L, O)
  refine ok_iload_n dX11_teaches_70 1 rfl ?_
  refine ok_iload_n dX11_teaches_71 2 rfl ?_
  obtain ⟨r6, hr7, h⟩ := bd h
  refine ok_callV (d := ((d + 0) + 18)) (mt := m6_teach) (mc := 0) (ms := 0) (As := [.ref (rO O (rO O b0 0) 0), va_rf r4, .int y1, .int y2]) (r := []) dX11_teaches_72 mo6_teach mv6_teach lkRX11_334 rfl hT1 (q := (RX6, TX6, 5)) rfl rfl rfl (Nat.le_of_ble_eq_true rfl) (by show _ + 1 ≤ d + _; omega) (Nat.le_refl _) (Nat.le_refl _) (pRt_mono ?_)
  refine k6_teach (d + 0) hW hT1 hT3 hSr4 hr7 ?_
  intro _
  show Ok g _ Qx 75 [(0, .ref b0), (1, .int y1), (2, .int y2), (3, .int y3)] [.int r6.1] (Z, r6.2, L, O)
  refine ok_istore (l' := [(4, .int r6.1), (0, .ref b0), (1, .int y1), (2, .int y2), (3, .int y3)]) dX11_teaches_75 (Nat.le_of_ble_eq_true rfl) rfl ?_
  refine ok_iload dX11_teaches_77 0 rfl ?_
  refine ok_iconst (v := (-1)) dX11_teaches_79 (by decide) ?_
  refine ok_icmp_ne (t := 86) dX11_teaches_80 (by decide) (fun hc8 => ?_) (fun hc8 => ?_)
  · have h := (if_neg hc8).symm.trans h
    refine ok_iload_n dX11_teaches_86 4 rfl ?_
    refine ok_iconst (v := (-1)) dX11_teaches_87 (by decide) ?_
    refine ok_icmp_ne (t := 96) dX11_teaches_88 (by decide) (fun hc9 => ?_) (fun hc9 => ?_)
    · have h := (if_neg hc9).symm.trans h
      refine ok_aload_n dX11_teaches_96 1 rfl ?_
      refine ok_getR (ci := 11) (k := 9) dX11_teaches_97 flRX11_65 rfl hW hZ_b0 (by decide) ?_
      refine ok_iload_n dX11_teaches_100 4 rfl ?_
      obtain ⟨r10, hr11, h⟩ := bd h
      refine ok_callV (d := ((d + 16) + 2)) (mt := m6_timesOf) (mc := 0) (ms := 0) (As := [.int y3]) (r := []) dX11_teaches_101 mo6_timesOf mv6_timesOf lkRX11_337 rfl hT1 (q := (RX6, TX6, 5)) rfl rfl rfl (Nat.le_of_ble_eq_true rfl) (by show _ + 1 ≤ d + _; omega) (Nat.le_refl _) (Nat.le_refl _) (pRt_mono ?_)
      refine k6_timesOf (d + 16) hW hT1 hr11 ?_
      intro _
      show Ok g _ Qx 104 [(4, .int r6.1), (0, .ref b0), (1, .int y1), (2, .int y2), (3, .int y3)] [.int r10] (Z, r6.2, L, O)
      cases h
      exact ok_iret dX11_teaches_104 hQ
    · have h := (if_pos hc9).symm.trans h
      refine ok_iload dX11_teaches_91 0 rfl ?_
      refine ok_goto (t := 104) dX11_teaches_93 (by decide) ?_
      cases h
      exact ok_iret dX11_teaches_104 hQ
  · have h := (if_pos hc8).symm.trans h
    refine ok_bipush (v := (-2)) dX11_teaches_83 (by decide) ?_
    cases h
    exact ok_iret dX11_teaches_85 hQ
def f11_teaches (n : Nat) (I : (Nat → Nat → Int32)) (O : (Nat → Nat → Option Nat)) (a0 : Nat) (x1 : Int32) (x2 : Int32) (x3 : Int32) : Option (Int32 × (Nat → Nat → Int32)) := (f10_hasChild I (rO O (rO O a0 0) 0) x1).bind fun r3 => (if r3 = 0 then some (((-2) : Int32), I) else (if x2 < 0 then some (((-2) : Int32), I) else (if (64 : Int32) ≤ x2 then some (((-2) : Int32), I) else (if (x2 &&& 1) = 0 then (if x3 = (-1 : Int32) then f11_teaches_c55 n O I a0 x1 x2 x3 else (f10_hasRoll I (rO O (rO O a0 0) 0) x3).bind fun r10 => (if r10 = 0 then some (((-2) : Int32), I) else f11_teaches_c55 n O I a0 x1 x2 x3)) else some (((-2) : Int32), I)))))
set_option maxHeartbeats 4000000 in
set_option maxRecDepth 20000 in
theorem o11_teaches {g : pG} {Qx : Option Value → pW → Prop} {Z : pZ} {I : (Nat → Nat → Int32)} {L : (Nat → Nat → Int64)} {O : (Nat → Nat → Option Nat)} {n : Nat} {a0 : Nat} {x1 : Int32} {x2 : Int32} {x3 : Int32} {res : Int32 × (Nat → Nat → Int32)} (d : Nat) (hW : WT Z O) (hZ0 : Z[a0]? = some (11, 11)) (h : f11_teaches n I O a0 x1 x2 x3 = some res) (hQ : Qx (some (.int res.1)) (Z, res.2, L, O)) : Ok g (d + 19, RX11, cX11_teaches, 5, false, 0, 0, Z.length, pSl Z) Qx 0 [(0, .ref a0), (1, .int x1), (2, .int x2), (3, .int x3)] [] (Z, I, L, O) := by
  unfold f11_teaches at h
  refine ok_aload_n dX11_teaches_0 0 rfl ?_
  have hT1 : Z[(rO O a0 0)]? = some (9, 10) := (wt_f (ci := 11) (k := 0) hW hZ0 rfl).2
  refine ok_getR (ci := 11) (k := 0) dX11_teaches_1 flRX11_10 rfl hW hZ0 (by decide) ?_
  have hT2 : Z[(rO O (rO O a0 0) 0)]? = some (10, 5) := (wt_f (ci := 9) (k := 0) hW hT1 rfl).2
  refine ok_getR (ci := 9) (k := 0) dX11_teaches_4 flRX11_79 rfl hW hT1 (by decide) ?_
  refine ok_iload_n dX11_teaches_7 1 rfl ?_
  obtain ⟨r3, hr4, h⟩ := bd h
  refine ok_callV (d := ((d + 16) + 2)) (mt := m10_hasChild) (mc := 0) (ms := 0) (As := [.int x1]) (r := []) dX11_teaches_8 mo10_hasChild mv10_hasChild lkRX11_156 rfl hT2 (q := (RX10, TX10, 5)) rfl rfl rfl (Nat.le_of_ble_eq_true rfl) (by show _ + 1 ≤ d + _; omega) (Nat.le_refl _) (Nat.le_refl _) (pRt_mono ?_)
  refine k10_hasChild (d + 16) hW hT2 hr4 ?_
  intro hbr3
  show Ok g _ Qx 11 [(0, .ref a0), (1, .int x1), (2, .int x2), (3, .int x3)] [.int r3] (Z, I, L, O)
  refine ok_if_eq (t := 30) dX11_teaches_11 (by decide) (fun hc5 => ?_) (fun hc5 => ?_)
  · have h := (if_pos hc5).symm.trans h
    refine ok_bipush (v := (-2)) dX11_teaches_30 (by decide) ?_
    cases h
    exact ok_iret dX11_teaches_32 hQ
  · have h := (if_neg hc5).symm.trans h
    refine ok_iload_n dX11_teaches_14 2 rfl ?_
    refine ok_if_lt (t := 30) dX11_teaches_15 (by decide) (fun hc6 => ?_) (fun hc6 => ?_)
    · have h := (if_pos hc6).symm.trans h
      refine ok_bipush (v := (-2)) dX11_teaches_30 (by decide) ?_
      cases h
      exact ok_iret dX11_teaches_32 hQ
    · have h := (if_neg hc6).symm.trans h
      refine ok_iload_n dX11_teaches_18 2 rfl ?_
      refine ok_bipush (v := 64) dX11_teaches_19 (by decide) ?_
      refine ok_icmp_ge (t := 30) dX11_teaches_21 (by decide) (fun hc7 => ?_) (fun hc7 => ?_)
      · have h := (if_pos hc7).symm.trans h
        refine ok_bipush (v := (-2)) dX11_teaches_30 (by decide) ?_
        cases h
        exact ok_iret dX11_teaches_32 hQ
      · have h := (if_neg hc7).symm.trans h
        refine ok_iload_n dX11_teaches_24 2 rfl ?_
        refine ok_iconst (v := 1) dX11_teaches_25 (by decide) ?_
        refine ok_iand dX11_teaches_26 ?_
        refine ok_if_eq (t := 33) dX11_teaches_27 (by decide) (fun hc8 => ?_) (fun hc8 => ?_)
        · have h := (if_pos hc8).symm.trans h
          refine ok_iload_n dX11_teaches_33 3 rfl ?_
          refine ok_iconst (v := (-1)) dX11_teaches_34 (by decide) ?_
          refine ok_icmp_eq (t := 55) dX11_teaches_35 (by decide) (fun hc9 => ?_) (fun hc9 => ?_)
          · have h := (if_pos hc9).symm.trans h
            refine ok_sub [0, 1, 2, 3] rfl ?_
            exact o11_teaches_c55 d hW hQ  I a0 x1 x2 x3 hZ0 h
          · have h := (if_neg hc9).symm.trans h
            refine ok_aload_n dX11_teaches_38 0 rfl ?_
            refine ok_getR (ci := 11) (k := 0) dX11_teaches_39 flRX11_10 rfl hW hZ0 (by decide) ?_
            refine ok_getR (ci := 9) (k := 0) dX11_teaches_42 flRX11_79 rfl hW hT1 (by decide) ?_
            refine ok_iload_n dX11_teaches_45 3 rfl ?_
            obtain ⟨r10, hr11, h⟩ := bd h
            refine ok_callV (d := ((d + 16) + 2)) (mt := m10_hasRoll) (mc := 0) (ms := 0) (As := [.int x3]) (r := []) dX11_teaches_46 mo10_hasRoll mv10_hasRoll lkRX11_152 rfl hT2 (q := (RX10, TX10, 5)) rfl rfl rfl (Nat.le_of_ble_eq_true rfl) (by show _ + 1 ≤ d + _; omega) (Nat.le_refl _) (Nat.le_refl _) (pRt_mono ?_)
            refine k10_hasRoll (d + 16) hW hT2 hr11 ?_
            intro hbr10
            show Ok g _ Qx 49 [(0, .ref a0), (1, .int x1), (2, .int x2), (3, .int x3)] [.int r10] (Z, I, L, O)
            refine ok_if_ne (t := 55) dX11_teaches_49 (by decide) (fun hc12 => ?_) (fun hc12 => ?_)
            · have h := (if_neg hc12).symm.trans h
              refine ok_sub [0, 1, 2, 3] rfl ?_
              exact o11_teaches_c55 d hW hQ  I a0 x1 x2 x3 hZ0 h
            · have h := (if_pos hc12).symm.trans h
              refine ok_bipush (v := (-2)) dX11_teaches_52 (by decide) ?_
              cases h
              exact ok_iret dX11_teaches_54 hQ
        · have h := (if_neg hc8).symm.trans h
          refine ok_bipush (v := (-2)) dX11_teaches_30 (by decide) ?_
          cases h
          exact ok_iret dX11_teaches_32 hQ
theorem k11_teaches {g : pG} {Q : Option Value → pW → Prop} {Z : pZ} {I : (Nat → Nat → Int32)} {L : (Nat → Nat → Int64)} {O : (Nat → Nat → Option Nat)} {n : Nat} {a0 : Nat} {x1 : Int32} {x2 : Int32} {x3 : Int32} {res : Int32 × (Nat → Nat → Int32)} (d : Nat) (hW : WT Z O) (hZ0 : Z[a0]? = some (11, 11)) (h : f11_teaches n I O a0 x1 x2 x3 = some res) (hQ : Q (some (.int res.1)) (Z, res.2, L, O)) : CT g (d + 19) m11_teaches 0 0 [.ref a0, .int x1, .int x2, .int x3] (Z, I, L, O) Q :=
  ct_of_ok (mt := m11_teaches) (ini := false) mo11_teaches.2.2.2.2 (fun h => by cases h) (Nat.le_of_ble_eq_true rfl) (o11_teaches d hW hZ0 h ⟨trivial, hQ, rfl, rfl⟩)
theorem dX11_commonDivisor_0 : decode cX11_commonDivisor 0 = .ok (.lload_n 0, 1) := by decide +kernel
theorem dX11_commonDivisor_1 : decode cX11_commonDivisor 1 = .ok (.lstore 4, 2) := by decide +kernel
theorem dX11_commonDivisor_3 : decode cX11_commonDivisor 3 = .ok (.lload_n 2, 1) := by decide +kernel
theorem dX11_commonDivisor_4 : decode cX11_commonDivisor 4 = .ok (.lstore 6, 2) := by decide +kernel
theorem dX11_commonDivisor_6 : decode cX11_commonDivisor 6 = .ok (.iconst 0, 1) := by decide +kernel
theorem dX11_commonDivisor_7 : decode cX11_commonDivisor 7 = .ok (.istore 8, 2) := by decide +kernel
theorem dX11_commonDivisor_9 : decode cX11_commonDivisor 9 = .ok (.iload 8, 2) := by decide +kernel
theorem dX11_commonDivisor_11 : decode cX11_commonDivisor 11 = .ok (.sipush 200, 3) := by decide +kernel
theorem dX11_commonDivisor_14 : decode cX11_commonDivisor 14 = .ok (.if_icmp .ge 31, 3) := by decide +kernel
theorem dX11_commonDivisor_17 : decode cX11_commonDivisor 17 = .ok (.lload 6, 2) := by decide +kernel
theorem dX11_commonDivisor_19 : decode cX11_commonDivisor 19 = .ok (.lconst 0, 1) := by decide +kernel
theorem dX11_commonDivisor_20 : decode cX11_commonDivisor 20 = .ok (.lcmp, 1) := by decide +kernel
theorem dX11_commonDivisor_21 : decode cX11_commonDivisor 21 = .ok (.ifCond .le 24, 3) := by decide +kernel
theorem dX11_commonDivisor_24 : decode cX11_commonDivisor 24 = .ok (.lload 4, 2) := by decide +kernel
theorem dX11_commonDivisor_26 : decode cX11_commonDivisor 26 = .ok (.lload 6, 2) := by decide +kernel
theorem dX11_commonDivisor_28 : decode cX11_commonDivisor 28 = .ok (.lrem, 1) := by decide +kernel
theorem dX11_commonDivisor_29 : decode cX11_commonDivisor 29 = .ok (.lstore 9, 2) := by decide +kernel
theorem dX11_commonDivisor_31 : decode cX11_commonDivisor 31 = .ok (.lload 6, 2) := by decide +kernel
theorem dX11_commonDivisor_33 : decode cX11_commonDivisor 33 = .ok (.lstore 4, 2) := by decide +kernel
theorem dX11_commonDivisor_35 : decode cX11_commonDivisor 35 = .ok (.lload 9, 2) := by decide +kernel
theorem dX11_commonDivisor_37 : decode cX11_commonDivisor 37 = .ok (.lstore 6, 2) := by decide +kernel
theorem dX11_commonDivisor_39 : decode cX11_commonDivisor 39 = .ok (.iinc 8 1, 3) := by decide +kernel
theorem dX11_commonDivisor_42 : decode cX11_commonDivisor 42 = .ok (.goto (-33), 3) := by decide +kernel
theorem dX11_commonDivisor_45 : decode cX11_commonDivisor 45 = .ok (.lload 4, 2) := by decide +kernel
theorem dX11_commonDivisor_47 : decode cX11_commonDivisor 47 = .ok (.lreturn, 1) := by decide +kernel
def m11_commonDivisor : pMT := (yX11_commonDivisor, cX11_commonDivisor, 11, some .long)
theorem mo11_commonDivisor : mOK m11_commonDivisor 2 := ⟨tb_i 1215 (by decide +kernel), wi_RX11, ⟨wn_RX11.1, wn_RX11.2, by decide +kernel⟩, by decide, plainFor_of_name wp_RX11⟩
theorem mv11_commonDivisor : mS m11_commonDivisor := (tb_i 1214 (by decide +kernel) : Cond.static yX11_commonDivisor ∈ lw_tbl)
def f11_commonDivisor_c9 (n : Nat) : Nat → Int64 → Int64 → Int32 → Option (Int64)
  | 0, _, _, _ => none
  | m + 1, y4, y6, y8 => (if (200 : Int32) ≤ y8 then some (y4) else (if (lg_cmp y6 (0 : Int64)) ≤ 0 then some (y4) else if y6 = 0 then none else f11_commonDivisor_c9 n m y6 (y4 - y4 / y6 * y6) (y8 + 1)))
set_option maxHeartbeats 4000000 in
set_option maxRecDepth 20000 in
theorem o11_commonDivisor_c9 {g : pG} {Qx : Option Value → pW → Prop} {Z : pZ} {I : (Nat → Nat → Int32)} {L : (Nat → Nat → Int64)} {O : (Nat → Nat → Option Nat)} {n : Nat} {res : Int64} (d : Nat) (hW : WT Z O) (hQ : Qx (some (.long res)) (Z, I, L, O)) : ∀ (m : Nat) (y4 : Int64) (y6 : Int64) (y8 : Int32), f11_commonDivisor_c9 n m y4 y6 y8 = some res → Ok g (d + 2, RX11, cX11_commonDivisor, 11, false, 0, 0, Z.length, pSl Z) Qx 9 [(4, .long y4), (6, .long y6), (8, .int y8)] [] (Z, I, L, O) := by
  intro m
  induction m with
  | zero => intro y4 y6 y8 h; rw [f11_commonDivisor_c9] at h; cases h
  | succ m ih =>
    intro y4 y6 y8 h
    rw [f11_commonDivisor_c9] at h
    refine ok_iload dX11_commonDivisor_9 2 rfl ?_
    refine ok_sipush (v := 200) dX11_commonDivisor_11 (by decide) ?_
    refine ok_icmp_ge (t := 45) dX11_commonDivisor_14 (by decide) (fun hc1 => ?_) (fun hc1 => ?_)
    · have h := (if_pos hc1).symm.trans h
      refine ok_lload dX11_commonDivisor_45 0 rfl ?_
      cases h
      exact ok_lret dX11_commonDivisor_47 hQ
    · have h := (if_neg hc1).symm.trans h
      refine ok_lload dX11_commonDivisor_17 1 rfl ?_
      refine ok_lconst (v := 0) dX11_commonDivisor_19 (by decide) ?_
      refine ok_lcmp dX11_commonDivisor_20 ?_
      refine ok_if_le (t := 45) dX11_commonDivisor_21 (by decide) (fun hc2 => ?_) (fun hc2 => ?_)
      · have h := (if_pos hc2).symm.trans h
        refine ok_lload dX11_commonDivisor_45 0 rfl ?_
        cases h
        exact ok_lret dX11_commonDivisor_47 hQ
      · have h := (if_neg hc2).symm.trans h
        refine ok_lload dX11_commonDivisor_24 0 rfl ?_
        refine ok_lload dX11_commonDivisor_26 1 rfl ?_
        obtain ⟨hg3, h⟩ := gd h
        refine ok_lrem dX11_commonDivisor_28 hg3 ?_
        refine ok_lstore (l' := [(9, .long (y4 - y4 / y6 * y6)), (4, .long y4), (6, .long y6), (8, .int y8)]) dX11_commonDivisor_29 (Nat.le_of_ble_eq_true rfl) rfl ?_
        refine ok_lload dX11_commonDivisor_31 2 rfl ?_
        refine ok_lstore (l' := [(4, .long y6), (9, .long (y4 - y4 / y6 * y6)), (6, .long y6), (8, .int y8)]) dX11_commonDivisor_33 (Nat.le_of_ble_eq_true rfl) rfl ?_
        refine ok_lload dX11_commonDivisor_35 1 rfl ?_
        refine ok_lstore (l' := [(6, .long (y4 - y4 / y6 * y6)), (4, .long y6), (9, .long (y4 - y4 / y6 * y6)), (8, .int y8)]) dX11_commonDivisor_37 (Nat.le_of_ble_eq_true rfl) rfl ?_
        refine ok_iinc (u := (y8 + 1)) (l' := [(8, .int (y8 + 1)), (6, .long (y4 - y4 / y6 * y6)), (4, .long y6), (9, .long (y4 - y4 / y6 * y6))]) dX11_commonDivisor_39 3 rfl rfl (Nat.le_of_ble_eq_true rfl) rfl ?_
        refine ok_goto (t := 9) dX11_commonDivisor_42 (by decide) ?_
        refine ok_sub [2, 1, 0] rfl ?_
        exact ih y6 (y4 - y4 / y6 * y6) (y8 + 1)  h
def f11_commonDivisor (n : Nat) (x0 : Int64) (x2 : Int64) : Option (Int64) := f11_commonDivisor_c9 n n x0 x2 (0 : Int32)
set_option maxHeartbeats 4000000 in
set_option maxRecDepth 20000 in
theorem o11_commonDivisor {g : pG} {Qx : Option Value → pW → Prop} {Z : pZ} {I : (Nat → Nat → Int32)} {L : (Nat → Nat → Int64)} {O : (Nat → Nat → Option Nat)} {n : Nat} {x0 : Int64} {x2 : Int64} {res : Int64} (d : Nat) (hW : WT Z O) (h : f11_commonDivisor n x0 x2 = some res) (hQ : Qx (some (.long res)) (Z, I, L, O)) : Ok g (d + 2, RX11, cX11_commonDivisor, 11, false, 0, 0, Z.length, pSl Z) Qx 0 [(0, .long x0), (2, .long x2)] [] (Z, I, L, O) := by
  unfold f11_commonDivisor at h
  refine ok_lload_n dX11_commonDivisor_0 0 rfl ?_
  refine ok_lstore (l' := [(4, .long x0), (0, .long x0), (2, .long x2)]) dX11_commonDivisor_1 (Nat.le_of_ble_eq_true rfl) rfl ?_
  refine ok_lload_n dX11_commonDivisor_3 2 rfl ?_
  refine ok_lstore (l' := [(6, .long x2), (4, .long x0), (0, .long x0), (2, .long x2)]) dX11_commonDivisor_4 (Nat.le_of_ble_eq_true rfl) rfl ?_
  refine ok_iconst (v := 0) dX11_commonDivisor_6 (by decide) ?_
  refine ok_istore (l' := [(8, .int 0), (6, .long x2), (4, .long x0), (0, .long x0), (2, .long x2)]) dX11_commonDivisor_7 (Nat.le_of_ble_eq_true rfl) rfl ?_
  refine ok_sub [2, 1, 0] rfl ?_
  exact o11_commonDivisor_c9 d hW hQ  n x0 x2 (0 : Int32)  h
theorem k11_commonDivisor {g : pG} {Q : Option Value → pW → Prop} {Z : pZ} {I : (Nat → Nat → Int32)} {L : (Nat → Nat → Int64)} {O : (Nat → Nat → Option Nat)} {n : Nat} {x0 : Int64} {x2 : Int64} {res : Int64} (d : Nat) (hW : WT Z O) (h : f11_commonDivisor n x0 x2 = some res) (hQ : Q (some (.long res)) (Z, I, L, O)) : CT g (d + 2) m11_commonDivisor 0 0 [.long x0, .long x2] (Z, I, L, O) Q :=
  ct_of_ok (mt := m11_commonDivisor) (ini := false) mo11_commonDivisor.2.2.2.2 (fun h => by cases h) (Nat.le_of_ble_eq_true rfl) (o11_commonDivisor d hW  h ⟨trivial, hQ, rfl, rfl⟩)
theorem dX11_likely_0 : decode cX11_likely 0 = .ok (.aload_n 0, 1) := by decide +kernel
theorem dX11_likely_1 : decode cX11_likely 1 = .ok (.getfield 10, 3) := by decide +kernel
theorem dX11_likely_4 : decode cX11_likely 4 = .ok (.getfield 79, 3) := by decide +kernel
theorem dX11_likely_7 : decode cX11_likely 7 = .ok (.iload_n 1, 1) := by decide +kernel
theorem dX11_likely_8 : decode cX11_likely 8 = .ok (.invokevirtual 152, 3) := by decide +kernel
theorem dX11_likely_11 : decode cX11_likely 11 = .ok (.ifCond .eq 31, 3) := by decide +kernel
theorem dX11_likely_14 : decode cX11_likely 14 = .ok (.aload_n 0, 1) := by decide +kernel
theorem dX11_likely_15 : decode cX11_likely 15 = .ok (.getfield 10, 3) := by decide +kernel
theorem dX11_likely_18 : decode cX11_likely 18 = .ok (.getfield 79, 3) := by decide +kernel
theorem dX11_likely_21 : decode cX11_likely 21 = .ok (.iload_n 2, 1) := by decide +kernel
theorem dX11_likely_22 : decode cX11_likely 22 = .ok (.iload_n 3, 1) := by decide +kernel
theorem dX11_likely_23 : decode cX11_likely 23 = .ok (.invokevirtual 176, 3) := by decide +kernel
theorem dX11_likely_26 : decode cX11_likely 26 = .ok (.iconst (-1), 1) := by decide +kernel
theorem dX11_likely_27 : decode cX11_likely 27 = .ok (.if_icmp .eq 15, 3) := by decide +kernel
theorem dX11_likely_30 : decode cX11_likely 30 = .ok (.iload 4, 2) := by decide +kernel
theorem dX11_likely_32 : decode cX11_likely 32 = .ok (.ifCond .lt 10, 3) := by decide +kernel
theorem dX11_likely_35 : decode cX11_likely 35 = .ok (.iload 4, 2) := by decide +kernel
theorem dX11_likely_37 : decode cX11_likely 37 = .ok (.bipush 16, 2) := by decide +kernel
theorem dX11_likely_39 : decode cX11_likely 39 = .ok (.if_icmp .le 7, 3) := by decide +kernel
theorem dX11_likely_42 : decode cX11_likely 42 = .ok (.ldc2_w 328, 3) := by decide +kernel
theorem dX11_likely_45 : decode cX11_likely 45 = .ok (.lreturn, 1) := by decide +kernel
theorem dX11_likely_46 : decode cX11_likely 46 = .ok (.aload_n 0, 1) := by decide +kernel
theorem dX11_likely_47 : decode cX11_likely 47 = .ok (.getfield 65, 3) := by decide +kernel
theorem dX11_likely_50 : decode cX11_likely 50 = .ok (.aload_n 0, 1) := by decide +kernel
theorem dX11_likely_51 : decode cX11_likely 51 = .ok (.getfield 10, 3) := by decide +kernel
theorem dX11_likely_54 : decode cX11_likely 54 = .ok (.getfield 79, 3) := by decide +kernel
theorem dX11_likely_57 : decode cX11_likely 57 = .ok (.aload_n 0, 1) := by decide +kernel
theorem dX11_likely_58 : decode cX11_likely 58 = .ok (.invokevirtual 162, 3) := by decide +kernel
theorem dX11_likely_61 : decode cX11_likely 61 = .ok (.iload_n 1, 1) := by decide +kernel
theorem dX11_likely_62 : decode cX11_likely 62 = .ok (.iload_n 2, 1) := by decide +kernel
theorem dX11_likely_63 : decode cX11_likely 63 = .ok (.iload_n 3, 1) := by decide +kernel
theorem dX11_likely_64 : decode cX11_likely 64 = .ok (.invokevirtual 340, 3) := by decide +kernel
theorem dX11_likely_67 : decode cX11_likely 67 = .ok (.aload_n 0, 1) := by decide +kernel
theorem dX11_likely_68 : decode cX11_likely 68 = .ok (.getfield 65, 3) := by decide +kernel
theorem dX11_likely_71 : decode cX11_likely 71 = .ok (.iload 4, 2) := by decide +kernel
theorem dX11_likely_73 : decode cX11_likely 73 = .ok (.invokevirtual 344, 3) := by decide +kernel
theorem dX11_likely_76 : decode cX11_likely 76 = .ok (.lstore 6, 2) := by decide +kernel
theorem dX11_likely_78 : decode cX11_likely 78 = .ok (.aload_n 0, 1) := by decide +kernel
theorem dX11_likely_79 : decode cX11_likely 79 = .ok (.getfield 65, 3) := by decide +kernel
theorem dX11_likely_82 : decode cX11_likely 82 = .ok (.iconst 0, 1) := by decide +kernel
theorem dX11_likely_83 : decode cX11_likely 83 = .ok (.invokevirtual 344, 3) := by decide +kernel
theorem dX11_likely_86 : decode cX11_likely 86 = .ok (.lstore 8, 2) := by decide +kernel
theorem dX11_likely_88 : decode cX11_likely 88 = .ok (.lload 8, 2) := by decide +kernel
theorem dX11_likely_90 : decode cX11_likely 90 = .ok (.lload 6, 2) := by decide +kernel
theorem dX11_likely_92 : decode cX11_likely 92 = .ok (.invokestatic 348, 3) := by decide +kernel
theorem dX11_likely_95 : decode cX11_likely 95 = .ok (.lstore 10, 2) := by decide +kernel
theorem dX11_likely_97 : decode cX11_likely 97 = .ok (.lload 10, 2) := by decide +kernel
theorem dX11_likely_99 : decode cX11_likely 99 = .ok (.lconst 0, 1) := by decide +kernel
theorem dX11_likely_100 : decode cX11_likely 100 = .ok (.lcmp, 1) := by decide +kernel
theorem dX11_likely_101 : decode cX11_likely 101 = .ok (.ifCond .gt 7, 3) := by decide +kernel
theorem dX11_likely_104 : decode cX11_likely 104 = .ok (.ldc2_w 328, 3) := by decide +kernel
theorem dX11_likely_107 : decode cX11_likely 107 = .ok (.lreturn, 1) := by decide +kernel
theorem dX11_likely_108 : decode cX11_likely 108 = .ok (.iload 5, 2) := by decide +kernel
theorem dX11_likely_110 : decode cX11_likely 110 = .ok (.ifCond .eq 11, 3) := by decide +kernel
theorem dX11_likely_113 : decode cX11_likely 113 = .ok (.lload 8, 2) := by decide +kernel
theorem dX11_likely_115 : decode cX11_likely 115 = .ok (.lload 10, 2) := by decide +kernel
theorem dX11_likely_117 : decode cX11_likely 117 = .ok (.ldiv, 1) := by decide +kernel
theorem dX11_likely_118 : decode cX11_likely 118 = .ok (.goto 8, 3) := by decide +kernel
theorem dX11_likely_121 : decode cX11_likely 121 = .ok (.lload 6, 2) := by decide +kernel
theorem dX11_likely_123 : decode cX11_likely 123 = .ok (.lload 10, 2) := by decide +kernel
theorem dX11_likely_125 : decode cX11_likely 125 = .ok (.ldiv, 1) := by decide +kernel
theorem dX11_likely_126 : decode cX11_likely 126 = .ok (.lreturn, 1) := by decide +kernel
def m11_likely : pMT := (yX11_likely, cX11_likely, 12, some .long)
theorem mo11_likely : mOK m11_likely 5 := ⟨tb_i 1193 (by decide +kernel), wi_RX11, ⟨wn_RX11.1, wn_RX11.2, by decide +kernel⟩, by decide, plainFor_of_name wp_RX11⟩
theorem mv11_likely : mV m11_likely := ⟨tb_i 1191 (by decide +kernel), tb_i 1192 (by decide +kernel)⟩
def f11_likely (n : Nat) (I : (Nat → Nat → Int32)) (L : (Nat → Nat → Int64)) (O : (Nat → Nat → Option Nat)) (a0 : Nat) (x1 : Int32) (x2 : Int32) (x3 : Int32) (x4 : Int32) (x5 : Int32) : Option (Int64 × (Nat → Nat → Int32) × (Nat → Nat → Int64)) := (f10_hasRoll I (rO O (rO O a0 0) 0) x1).bind fun r3 => (if r3 = 0 then some (((-1) : Int64), I, L) else (f10_heardBy I O (rO O (rO O a0 0) 0) x2 x3).bind fun r6 => (if r6 = (-1 : Int32) then some (((-1) : Int64), I, L) else (if x4 < 0 then some (((-1) : Int64), I, L) else (if x4 ≤ (16 : Int32) then (f11_ruling I O a0).bind fun r12 => (f6_weigh n I L O (rO O a0 9) (rO O (rO O a0 0) 0) r12 x1 x2 x3).bind fun r14 => (f6_outcomesFrom n r14.2 O (rO O a0 9) x4).bind fun r16 => (f6_outcomesFrom n r14.2 O (rO O a0 9) (0 : Int32)).bind fun r18 => (f11_commonDivisor n r18 r16).bind fun r20 => (if 0 < (lg_cmp r20 (0 : Int64)) then (if x5 = 0 then if r20 = 0 then none else some ((r16 / r20), r14.1, r14.2) else if r20 = 0 then none else some ((r18 / r20), r14.1, r14.2)) else some (((-1) : Int64), r14.1, r14.2)) else some (((-1) : Int64), I, L)))))
set_option maxHeartbeats 4000000 in
set_option maxRecDepth 20000 in
theorem o11_likely {g : pG} {Qx : Option Value → pW → Prop} {Z : pZ} {I : (Nat → Nat → Int32)} {L : (Nat → Nat → Int64)} {O : (Nat → Nat → Option Nat)} {n : Nat} {a0 : Nat} {x1 : Int32} {x2 : Int32} {x3 : Int32} {x4 : Int32} {x5 : Int32} {res : Int64 × (Nat → Nat → Int32) × (Nat → Nat → Int64)} (d : Nat) (hW : WT Z O) (hZ0 : Z[a0]? = some (11, 11)) (h : f11_likely n I L O a0 x1 x2 x3 x4 x5 = some res) (hQ : Qx (some (.long res.1)) (Z, res.2.1, res.2.2, O)) : Ok g (d + 7, RX11, cX11_likely, 12, false, 0, 0, Z.length, pSl Z) Qx 0 [(0, .ref a0), (1, .int x1), (2, .int x2), (3, .int x3), (4, .int x4), (5, .int x5)] [] (Z, I, L, O) := by
  unfold f11_likely at h
  refine ok_aload_n dX11_likely_0 0 rfl ?_
  have hT1 : Z[(rO O a0 0)]? = some (9, 10) := (wt_f (ci := 11) (k := 0) hW hZ0 rfl).2
  refine ok_getR (ci := 11) (k := 0) dX11_likely_1 flRX11_10 rfl hW hZ0 (by decide) ?_
  have hT2 : Z[(rO O (rO O a0 0) 0)]? = some (10, 5) := (wt_f (ci := 9) (k := 0) hW hT1 rfl).2
  refine ok_getR (ci := 9) (k := 0) dX11_likely_4 flRX11_79 rfl hW hT1 (by decide) ?_
  refine ok_iload_n dX11_likely_7 1 rfl ?_
  obtain ⟨r3, hr4, h⟩ := bd h
  refine ok_callV (d := ((d + 4) + 2)) (mt := m10_hasRoll) (mc := 0) (ms := 0) (As := [.int x1]) (r := []) dX11_likely_8 mo10_hasRoll mv10_hasRoll lkRX11_152 rfl hT2 (q := (RX10, TX10, 5)) rfl rfl rfl (Nat.le_of_ble_eq_true rfl) (by show _ + 1 ≤ d + _; omega) (Nat.le_refl _) (Nat.le_refl _) (pRt_mono ?_)
  refine k10_hasRoll (d + 4) hW hT2 hr4 ?_
  intro hbr3
  show Ok g _ Qx 11 [(0, .ref a0), (1, .int x1), (2, .int x2), (3, .int x3), (4, .int x4), (5, .int x5)] [.int r3] (Z, I, L, O)
  refine ok_if_eq (t := 42) dX11_likely_11 (by decide) (fun hc5 => ?_) (fun hc5 => ?_)
  · have h := (if_pos hc5).symm.trans h
    refine ok_ldc2 (v := (-1)) dX11_likely_42 (tb_i (c := Cond.constantLong RX11 328 (-1)) 1143 (by decide +kernel)) ?_
    cases h
    exact ok_lret dX11_likely_45 hQ
  · have h := (if_neg hc5).symm.trans h
    refine ok_aload_n dX11_likely_14 0 rfl ?_
    refine ok_getR (ci := 11) (k := 0) dX11_likely_15 flRX11_10 rfl hW hZ0 (by decide) ?_
    refine ok_getR (ci := 9) (k := 0) dX11_likely_18 flRX11_79 rfl hW hT1 (by decide) ?_
    refine ok_iload_n dX11_likely_21 2 rfl ?_
    refine ok_iload_n dX11_likely_22 3 rfl ?_
    obtain ⟨r6, hr7, h⟩ := bd h
    refine ok_callV (d := ((d + 3) + 3)) (mt := m10_heardBy) (mc := 0) (ms := 0) (As := [.int x2, .int x3]) (r := []) dX11_likely_23 mo10_heardBy mv10_heardBy lkRX11_176 rfl hT2 (q := (RX10, TX10, 5)) rfl rfl rfl (Nat.le_of_ble_eq_true rfl) (by show _ + 1 ≤ d + _; omega) (Nat.le_refl _) (Nat.le_refl _) (pRt_mono ?_)
    refine k10_heardBy (d + 3) hW hT2 hr7 ?_
    intro _
    show Ok g _ Qx 26 [(0, .ref a0), (1, .int x1), (2, .int x2), (3, .int x3), (4, .int x4), (5, .int x5)] [.int r6] (Z, I, L, O)
    refine ok_iconst (v := (-1)) dX11_likely_26 (by decide) ?_
    refine ok_icmp_eq (t := 42) dX11_likely_27 (by decide) (fun hc8 => ?_) (fun hc8 => ?_)
    · have h := (if_pos hc8).symm.trans h
      refine ok_ldc2 (v := (-1)) dX11_likely_42 (tb_i (c := Cond.constantLong RX11 328 (-1)) 1143 (by decide +kernel)) ?_
      cases h
      exact ok_lret dX11_likely_45 hQ
    · have h := (if_neg hc8).symm.trans h
      refine ok_iload dX11_likely_30 4 rfl ?_
      refine ok_if_lt (t := 42) dX11_likely_32 (by decide) (fun hc9 => ?_) (fun hc9 => ?_)
      · have h := (if_pos hc9).symm.trans h
        refine ok_ldc2 (v := (-1)) dX11_likely_42 (tb_i (c := Cond.constantLong RX11 328 (-1)) 1143 (by decide +kernel)) ?_
        cases h
        exact ok_lret dX11_likely_45 hQ
      · have h := (if_neg hc9).symm.trans h
        refine ok_iload dX11_likely_35 4 rfl ?_
        refine ok_bipush (v := 16) dX11_likely_37 (by decide) ?_
        refine ok_icmp_le (t := 46) dX11_likely_39 (by decide) (fun hc10 => ?_) (fun hc10 => ?_)
        · have h := (if_pos hc10).symm.trans h
          refine ok_aload_n dX11_likely_46 0 rfl ?_
          have hT11 : Z[(rO O a0 9)]? = some (6, 5) := (wt_f (ci := 11) (k := 9) hW hZ0 rfl).2
          refine ok_getR (ci := 11) (k := 9) dX11_likely_47 flRX11_65 rfl hW hZ0 (by decide) ?_
          refine ok_aload_n dX11_likely_50 0 rfl ?_
          refine ok_getR (ci := 11) (k := 0) dX11_likely_51 flRX11_10 rfl hW hZ0 (by decide) ?_
          refine ok_getR (ci := 9) (k := 0) dX11_likely_54 flRX11_79 rfl hW hT1 (by decide) ?_
          refine ok_aload_n dX11_likely_57 0 rfl ?_
          obtain ⟨r12, hr13, h⟩ := bd h
          have hSr12 := t11_ruling hW hZ0 hr13
          refine ok_callV (d := ((d + 3) + 3)) (mt := m11_ruling) (mc := 0) (ms := 0) (As := []) (r := [.ref (rO O (rO O a0 0) 0), .ref (rO O a0 9)]) dX11_likely_58 mo11_ruling mv11_ruling lkRX11_162 rfl hZ0 (q := (RX11, TX11, 11)) rfl rfl rfl (Nat.le_of_ble_eq_true rfl) (by show _ + 1 ≤ d + _; omega) (Nat.le_refl _) (Nat.le_refl _) (pRt_mono ?_)
          refine k11_ruling (d + 3) hW hZ0 hr13 ?_
          intro _
          show Ok g _ Qx 61 [(0, .ref a0), (1, .int x1), (2, .int x2), (3, .int x3), (4, .int x4), (5, .int x5)] [va_rf r12, .ref (rO O (rO O a0 0) 0), .ref (rO O a0 9)] (Z, I, L, O)
          refine ok_iload_n dX11_likely_61 1 rfl ?_
          refine ok_iload_n dX11_likely_62 2 rfl ?_
          refine ok_iload_n dX11_likely_63 3 rfl ?_
          obtain ⟨r14, hr15, h⟩ := bd h
          refine ok_callV (d := ((d + 0) + 6)) (mt := m6_weigh) (mc := 0) (ms := 0) (As := [.ref (rO O (rO O a0 0) 0), va_rf r12, .int x1, .int x2, .int x3]) (r := []) dX11_likely_64 mo6_weigh mv6_weigh lkRX11_340 rfl hT11 (q := (RX6, TX6, 5)) rfl rfl rfl (Nat.le_of_ble_eq_true rfl) (by show _ + 1 ≤ d + _; omega) (Nat.le_refl _) (Nat.le_refl _) (pRt_mono ?_)
          refine k6_weigh (d + 0) hW hT11 hT2 hSr12 hr15 ?_
          intro _
          show Ok g _ Qx 67 [(0, .ref a0), (1, .int x1), (2, .int x2), (3, .int x3), (4, .int x4), (5, .int x5)] [] (Z, r14.1, r14.2, O)
          refine ok_aload_n dX11_likely_67 0 rfl ?_
          refine ok_getR (ci := 11) (k := 9) dX11_likely_68 flRX11_65 rfl hW hZ0 (by decide) ?_
          refine ok_iload dX11_likely_71 4 rfl ?_
          obtain ⟨r16, hr17, h⟩ := bd h
          refine ok_callV (d := ((d + 3) + 3)) (mt := m6_outcomesFrom) (mc := 0) (ms := 0) (As := [.int x4]) (r := []) dX11_likely_73 mo6_outcomesFrom mv6_outcomesFrom lkRX11_344 rfl hT11 (q := (RX6, TX6, 5)) rfl rfl rfl (Nat.le_of_ble_eq_true rfl) (by show _ + 1 ≤ d + _; omega) (Nat.le_refl _) (Nat.le_refl _) (pRt_mono ?_)
          refine k6_outcomesFrom (d + 3) hW hT11 hr17 ?_
          intro _
          show Ok g _ Qx 76 [(0, .ref a0), (1, .int x1), (2, .int x2), (3, .int x3), (4, .int x4), (5, .int x5)] [.long r16] (Z, r14.1, r14.2, O)
          refine ok_lstore (l' := [(6, .long r16), (0, .ref a0), (1, .int x1), (2, .int x2), (3, .int x3), (4, .int x4), (5, .int x5)]) dX11_likely_76 (Nat.le_of_ble_eq_true rfl) rfl ?_
          refine ok_aload_n dX11_likely_78 1 rfl ?_
          refine ok_getR (ci := 11) (k := 9) dX11_likely_79 flRX11_65 rfl hW hZ0 (by decide) ?_
          refine ok_iconst (v := 0) dX11_likely_82 (by decide) ?_
          obtain ⟨r18, hr19, h⟩ := bd h
          refine ok_callV (d := ((d + 3) + 3)) (mt := m6_outcomesFrom) (mc := 0) (ms := 0) (As := [.int 0]) (r := []) dX11_likely_83 mo6_outcomesFrom mv6_outcomesFrom lkRX11_344 rfl hT11 (q := (RX6, TX6, 5)) rfl rfl rfl (Nat.le_of_ble_eq_true rfl) (by show _ + 1 ≤ d + _; omega) (Nat.le_refl _) (Nat.le_refl _) (pRt_mono ?_)
          refine k6_outcomesFrom (d + 3) hW hT11 hr19 ?_
          intro _
          show Ok g _ Qx 86 [(6, .long r16), (0, .ref a0), (1, .int x1), (2, .int x2), (3, .int x3), (4, .int x4), (5, .int x5)] [.long r18] (Z, r14.1, r14.2, O)
          refine ok_lstore (l' := [(8, .long r18), (6, .long r16), (0, .ref a0), (1, .int x1), (2, .int x2), (3, .int x3), (4, .int x4), (5, .int x5)]) dX11_likely_86 (Nat.le_of_ble_eq_true rfl) rfl ?_
          refine ok_lload dX11_likely_88 0 rfl ?_
          refine ok_lload dX11_likely_90 1 rfl ?_
          obtain ⟨r20, hr21, h⟩ := bd h
          refine ok_callS (d := ((d + 4) + 2)) (mt := m11_commonDivisor) (mc := 0) (ms := 0) (As := [.long r18, .long r16]) (r := []) dX11_likely_92 mo11_commonDivisor mv11_commonDivisor lkRX11_348 rfl rfl (Nat.le_of_ble_eq_true rfl) (by show _ + 1 ≤ d + _; omega) (Nat.le_refl _) (Nat.le_refl _) (pRt_mono ?_)
          refine k11_commonDivisor (d + 4) hW  hr21 ?_
          intro _
          show Ok g _ Qx 95 [(8, .long r18), (6, .long r16), (0, .ref a0), (1, .int x1), (2, .int x2), (3, .int x3), (4, .int x4), (5, .int x5)] [.long r20] (Z, r14.1, r14.2, O)
          refine ok_lstore (l' := [(10, .long r20), (8, .long r18), (6, .long r16), (0, .ref a0), (1, .int x1), (2, .int x2), (3, .int x3), (4, .int x4), (5, .int x5)]) dX11_likely_95 (Nat.le_of_ble_eq_true rfl) rfl ?_
          refine ok_lload dX11_likely_97 0 rfl ?_
          refine ok_lconst (v := 0) dX11_likely_99 (by decide) ?_
          refine ok_lcmp dX11_likely_100 ?_
          refine ok_if_gt (t := 108) dX11_likely_101 (by decide) (fun hc22 => ?_) (fun hc22 => ?_)
          · have h := (if_pos hc22).symm.trans h
            refine ok_iload dX11_likely_108 8 rfl ?_
            refine ok_if_eq (t := 121) dX11_likely_110 (by decide) (fun hc23 => ?_) (fun hc23 => ?_)
            · have h := (if_pos hc23).symm.trans h
              refine ok_lload dX11_likely_121 2 rfl ?_
              refine ok_lload dX11_likely_123 0 rfl ?_
              obtain ⟨hg24, h⟩ := gd h
              refine ok_ldiv dX11_likely_125 hg24 ?_
              cases h
              exact ok_lret dX11_likely_126 hQ
            · have h := (if_neg hc23).symm.trans h
              refine ok_lload dX11_likely_113 1 rfl ?_
              refine ok_lload dX11_likely_115 0 rfl ?_
              obtain ⟨hg25, h⟩ := gd h
              refine ok_ldiv dX11_likely_117 hg25 ?_
              refine ok_goto (t := 126) dX11_likely_118 (by decide) ?_
              cases h
              exact ok_lret dX11_likely_126 hQ
          · have h := (if_neg hc22).symm.trans h
            refine ok_ldc2 (v := (-1)) dX11_likely_104 (tb_i (c := Cond.constantLong RX11 328 (-1)) 1143 (by decide +kernel)) ?_
            cases h
            exact ok_lret dX11_likely_107 hQ
        · have h := (if_neg hc10).symm.trans h
          refine ok_ldc2 (v := (-1)) dX11_likely_42 (tb_i (c := Cond.constantLong RX11 328 (-1)) 1143 (by decide +kernel)) ?_
          cases h
          exact ok_lret dX11_likely_45 hQ
theorem k11_likely {g : pG} {Q : Option Value → pW → Prop} {Z : pZ} {I : (Nat → Nat → Int32)} {L : (Nat → Nat → Int64)} {O : (Nat → Nat → Option Nat)} {n : Nat} {a0 : Nat} {x1 : Int32} {x2 : Int32} {x3 : Int32} {x4 : Int32} {x5 : Int32} {res : Int64 × (Nat → Nat → Int32) × (Nat → Nat → Int64)} (d : Nat) (hW : WT Z O) (hZ0 : Z[a0]? = some (11, 11)) (h : f11_likely n I L O a0 x1 x2 x3 x4 x5 = some res) (hQ : Q (some (.long res.1)) (Z, res.2.1, res.2.2, O)) : CT g (d + 7) m11_likely 0 0 [.ref a0, .int x1, .int x2, .int x3, .int x4, .int x5] (Z, I, L, O) Q :=
  ct_of_ok (mt := m11_likely) (ini := false) mo11_likely.2.2.2.2 (fun h => by cases h) (Nat.le_of_ble_eq_true rfl) (o11_likely d hW hZ0 h ⟨trivial, hQ, rfl, rfl⟩)
theorem dX11_parts_0 : decode cX11_parts 0 = .ok (.aload_n 0, 1) := by decide +kernel
theorem dX11_parts_1 : decode cX11_parts 1 = .ok (.getfield 10, 3) := by decide +kernel
theorem dX11_parts_4 : decode cX11_parts 4 = .ok (.getfield 79, 3) := by decide +kernel
theorem dX11_parts_7 : decode cX11_parts 7 = .ok (.iload_n 1, 1) := by decide +kernel
theorem dX11_parts_8 : decode cX11_parts 8 = .ok (.invokevirtual 152, 3) := by decide +kernel
theorem dX11_parts_11 : decode cX11_parts 11 = .ok (.ifCond .eq 21, 3) := by decide +kernel
theorem dX11_parts_14 : decode cX11_parts 14 = .ok (.aload_n 0, 1) := by decide +kernel
theorem dX11_parts_15 : decode cX11_parts 15 = .ok (.getfield 58, 3) := by decide +kernel
theorem dX11_parts_18 : decode cX11_parts 18 = .ok (.aload_n 0, 1) := by decide +kernel
theorem dX11_parts_19 : decode cX11_parts 19 = .ok (.getfield 10, 3) := by decide +kernel
theorem dX11_parts_22 : decode cX11_parts 22 = .ok (.getfield 79, 3) := by decide +kernel
theorem dX11_parts_25 : decode cX11_parts 25 = .ok (.iload_n 1, 1) := by decide +kernel
theorem dX11_parts_26 : decode cX11_parts 26 = .ok (.invokevirtual 352, 3) := by decide +kernel
theorem dX11_parts_29 : decode cX11_parts 29 = .ok (.goto 4, 3) := by decide +kernel
theorem dX11_parts_32 : decode cX11_parts 32 = .ok (.iconst (-1), 1) := by decide +kernel
theorem dX11_parts_33 : decode cX11_parts 33 = .ok (.ireturn, 1) := by decide +kernel
def m11_parts : pMT := (yX11_parts, cX11_parts, 2, some .int)
theorem mo11_parts : mOK m11_parts 1 := ⟨tb_i 1219 (by decide +kernel), wi_RX11, ⟨wn_RX11.1, wn_RX11.2, by decide +kernel⟩, by decide, plainFor_of_name wp_RX11⟩
theorem mv11_parts : mV m11_parts := ⟨tb_i 1217 (by decide +kernel), tb_i 1218 (by decide +kernel)⟩
def f11_parts (n : Nat) (I : (Nat → Nat → Int32)) (O : (Nat → Nat → Option Nat)) (a0 : Nat) (x1 : Int32) : Option (Int32 × (Nat → Nat → Int32)) := (f10_hasRoll I (rO O (rO O a0 0) 0) x1).bind fun r3 => (if r3 = 0 then some (((-1) : Int32), I) else (f2_pieces n I O (rO O a0 8) (rO O (rO O a0 0) 0) x1).bind fun r7 => some (r7.1, r7.2))
set_option maxHeartbeats 4000000 in
set_option maxRecDepth 20000 in
theorem o11_parts {g : pG} {Qx : Option Value → pW → Prop} {Z : pZ} {I : (Nat → Nat → Int32)} {L : (Nat → Nat → Int64)} {O : (Nat → Nat → Option Nat)} {n : Nat} {a0 : Nat} {x1 : Int32} {res : Int32 × (Nat → Nat → Int32)} (d : Nat) (hW : WT Z O) (hZ0 : Z[a0]? = some (11, 11)) (h : f11_parts n I O a0 x1 = some res) (hQ : Qx (some (.int res.1)) (Z, res.2, L, O)) : Ok g (d + 6, RX11, cX11_parts, 2, false, 0, 0, Z.length, pSl Z) Qx 0 [(0, .ref a0), (1, .int x1)] [] (Z, I, L, O) := by
  unfold f11_parts at h
  refine ok_aload_n dX11_parts_0 0 rfl ?_
  have hT1 : Z[(rO O a0 0)]? = some (9, 10) := (wt_f (ci := 11) (k := 0) hW hZ0 rfl).2
  refine ok_getR (ci := 11) (k := 0) dX11_parts_1 flRX11_10 rfl hW hZ0 (by decide) ?_
  have hT2 : Z[(rO O (rO O a0 0) 0)]? = some (10, 5) := (wt_f (ci := 9) (k := 0) hW hT1 rfl).2
  refine ok_getR (ci := 9) (k := 0) dX11_parts_4 flRX11_79 rfl hW hT1 (by decide) ?_
  refine ok_iload_n dX11_parts_7 1 rfl ?_
  obtain ⟨r3, hr4, h⟩ := bd h
  refine ok_callV (d := ((d + 3) + 2)) (mt := m10_hasRoll) (mc := 0) (ms := 0) (As := [.int x1]) (r := []) dX11_parts_8 mo10_hasRoll mv10_hasRoll lkRX11_152 rfl hT2 (q := (RX10, TX10, 5)) rfl rfl rfl (Nat.le_of_ble_eq_true rfl) (by show _ + 1 ≤ d + _; omega) (Nat.le_refl _) (Nat.le_refl _) (pRt_mono ?_)
  refine k10_hasRoll (d + 3) hW hT2 hr4 ?_
  intro hbr3
  show Ok g _ Qx 11 [(0, .ref a0), (1, .int x1)] [.int r3] (Z, I, L, O)
  refine ok_if_eq (t := 32) dX11_parts_11 (by decide) (fun hc5 => ?_) (fun hc5 => ?_)
  · have h := (if_pos hc5).symm.trans h
    refine ok_iconst (v := (-1)) dX11_parts_32 (by decide) ?_
    cases h
    exact ok_iret dX11_parts_33 hQ
  · have h := (if_neg hc5).symm.trans h
    refine ok_aload_n dX11_parts_14 0 rfl ?_
    have hT6 : Z[(rO O a0 8)]? = some (2, 10) := (wt_f (ci := 11) (k := 8) hW hZ0 rfl).2
    refine ok_getR (ci := 11) (k := 8) dX11_parts_15 flRX11_58 rfl hW hZ0 (by decide) ?_
    refine ok_aload_n dX11_parts_18 0 rfl ?_
    refine ok_getR (ci := 11) (k := 0) dX11_parts_19 flRX11_10 rfl hW hZ0 (by decide) ?_
    refine ok_getR (ci := 9) (k := 0) dX11_parts_22 flRX11_79 rfl hW hT1 (by decide) ?_
    refine ok_iload_n dX11_parts_25 1 rfl ?_
    obtain ⟨r7, hr8, h⟩ := bd h
    refine ok_callV (d := ((d + 0) + 5)) (mt := m2_pieces) (mc := 0) (ms := 0) (As := [.ref (rO O (rO O a0 0) 0), .int x1]) (r := []) dX11_parts_26 mo2_pieces mv2_pieces lkRX11_352 rfl hT6 (q := (RX2, TX2, 10)) rfl rfl rfl (Nat.le_of_ble_eq_true rfl) (by show _ + 1 ≤ d + _; omega) (Nat.le_refl _) (Nat.le_refl _) (pRt_mono ?_)
    refine k2_pieces (d + 0) hW hT6 hT2 hr8 ?_
    intro _
    show Ok g _ Qx 29 [(0, .ref a0), (1, .int x1)] [.int r7.1] (Z, r7.2, L, O)
    refine ok_goto (t := 33) dX11_parts_29 (by decide) ?_
    cases h
    exact ok_iret dX11_parts_33 hQ
theorem k11_parts {g : pG} {Q : Option Value → pW → Prop} {Z : pZ} {I : (Nat → Nat → Int32)} {L : (Nat → Nat → Int64)} {O : (Nat → Nat → Option Nat)} {n : Nat} {a0 : Nat} {x1 : Int32} {res : Int32 × (Nat → Nat → Int32)} (d : Nat) (hW : WT Z O) (hZ0 : Z[a0]? = some (11, 11)) (h : f11_parts n I O a0 x1 = some res) (hQ : Q (some (.int res.1)) (Z, res.2, L, O)) : CT g (d + 6) m11_parts 0 0 [.ref a0, .int x1] (Z, I, L, O) Q :=
  ct_of_ok (mt := m11_parts) (ini := false) mo11_parts.2.2.2.2 (fun h => by cases h) (Nat.le_of_ble_eq_true rfl) (o11_parts d hW hZ0 h ⟨trivial, hQ, rfl, rfl⟩)
theorem dX11_alike_0 : decode cX11_alike 0 = .ok (.iconst (-1), 1) := by decide +kernel
theorem dX11_alike_1 : decode cX11_alike 1 = .ok (.istore_n 1, 1) := by decide +kernel
theorem dX11_alike_2 : decode cX11_alike 2 = .ok (.bipush 32, 2) := by decide +kernel
theorem dX11_alike_4 : decode cX11_alike 4 = .ok (.istore_n 2, 1) := by decide +kernel
theorem dX11_alike_5 : decode cX11_alike 5 = .ok (.iconst 0, 1) := by decide +kernel
theorem dX11_alike_6 : decode cX11_alike 6 = .ok (.istore_n 3, 1) := by decide +kernel
theorem dX11_alike_7 : decode cX11_alike 7 = .ok (.iload_n 3, 1) := by decide +kernel
theorem dX11_alike_8 : decode cX11_alike 8 = .ok (.aload_n 0, 1) := by decide +kernel
theorem dX11_alike_9 : decode cX11_alike 9 = .ok (.getfield 10, 3) := by decide +kernel
theorem dX11_alike_12 : decode cX11_alike 12 = .ok (.getfield 79, 3) := by decide +kernel
theorem dX11_alike_15 : decode cX11_alike 15 = .ok (.getfield 256, 3) := by decide +kernel
theorem dX11_alike_18 : decode cX11_alike 18 = .ok (.if_icmp .ge 71, 3) := by decide +kernel
theorem dX11_alike_21 : decode cX11_alike 21 = .ok (.iload_n 3, 1) := by decide +kernel
theorem dX11_alike_22 : decode cX11_alike 22 = .ok (.iconst 1, 1) := by decide +kernel
theorem dX11_alike_23 : decode cX11_alike 23 = .ok (.iadd, 1) := by decide +kernel
theorem dX11_alike_24 : decode cX11_alike 24 = .ok (.istore 4, 2) := by decide +kernel
theorem dX11_alike_26 : decode cX11_alike 26 = .ok (.iload 4, 2) := by decide +kernel
theorem dX11_alike_28 : decode cX11_alike 28 = .ok (.aload_n 0, 1) := by decide +kernel
theorem dX11_alike_29 : decode cX11_alike 29 = .ok (.getfield 10, 3) := by decide +kernel
theorem dX11_alike_32 : decode cX11_alike 32 = .ok (.getfield 79, 3) := by decide +kernel
theorem dX11_alike_35 : decode cX11_alike 35 = .ok (.getfield 256, 3) := by decide +kernel
theorem dX11_alike_38 : decode cX11_alike 38 = .ok (.if_icmp .ge 45, 3) := by decide +kernel
theorem dX11_alike_41 : decode cX11_alike 41 = .ok (.aload_n 0, 1) := by decide +kernel
theorem dX11_alike_42 : decode cX11_alike 42 = .ok (.getfield 58, 3) := by decide +kernel
theorem dX11_alike_45 : decode cX11_alike 45 = .ok (.aload_n 0, 1) := by decide +kernel
theorem dX11_alike_46 : decode cX11_alike 46 = .ok (.getfield 10, 3) := by decide +kernel
theorem dX11_alike_49 : decode cX11_alike 49 = .ok (.getfield 79, 3) := by decide +kernel
theorem dX11_alike_52 : decode cX11_alike 52 = .ok (.iload_n 3, 1) := by decide +kernel
theorem dX11_alike_53 : decode cX11_alike 53 = .ok (.iload 4, 2) := by decide +kernel
theorem dX11_alike_55 : decode cX11_alike 55 = .ok (.invokevirtual 272, 3) := by decide +kernel
theorem dX11_alike_58 : decode cX11_alike 58 = .ok (.istore 5, 2) := by decide +kernel
theorem dX11_alike_60 : decode cX11_alike 60 = .ok (.iload 5, 2) := by decide +kernel
theorem dX11_alike_62 : decode cX11_alike 62 = .ok (.iload_n 2, 1) := by decide +kernel
theorem dX11_alike_63 : decode cX11_alike 63 = .ok (.if_icmp .ge 14, 3) := by decide +kernel
theorem dX11_alike_66 : decode cX11_alike 66 = .ok (.iload 5, 2) := by decide +kernel
theorem dX11_alike_68 : decode cX11_alike 68 = .ok (.istore_n 2, 1) := by decide +kernel
theorem dX11_alike_69 : decode cX11_alike 69 = .ok (.bipush 10, 2) := by decide +kernel
theorem dX11_alike_71 : decode cX11_alike 71 = .ok (.iload_n 3, 1) := by decide +kernel
theorem dX11_alike_72 : decode cX11_alike 72 = .ok (.imul, 1) := by decide +kernel
theorem dX11_alike_73 : decode cX11_alike 73 = .ok (.iload 4, 2) := by decide +kernel
theorem dX11_alike_75 : decode cX11_alike 75 = .ok (.iadd, 1) := by decide +kernel
theorem dX11_alike_76 : decode cX11_alike 76 = .ok (.istore_n 1, 1) := by decide +kernel
theorem dX11_alike_77 : decode cX11_alike 77 = .ok (.iinc 4 1, 3) := by decide +kernel
theorem dX11_alike_80 : decode cX11_alike 80 = .ok (.goto (-54), 3) := by decide +kernel
theorem dX11_alike_83 : decode cX11_alike 83 = .ok (.iinc 3 1, 3) := by decide +kernel
theorem dX11_alike_86 : decode cX11_alike 86 = .ok (.goto (-79), 3) := by decide +kernel
theorem dX11_alike_89 : decode cX11_alike 89 = .ok (.iload_n 1, 1) := by decide +kernel
theorem dX11_alike_90 : decode cX11_alike 90 = .ok (.ireturn, 1) := by decide +kernel
def m11_alike : pMT := (yX11_alike, cX11_alike, 6, some .int)
theorem mo11_alike : mOK m11_alike 0 := ⟨tb_i 1231 (by decide +kernel), wi_RX11, ⟨wn_RX11.1, wn_RX11.2, by decide +kernel⟩, by decide, plainFor_of_name wp_RX11⟩
theorem mv11_alike : mV m11_alike := ⟨tb_i 1229 (by decide +kernel), tb_i 1230 (by decide +kernel)⟩
def f11_alike_c26 (n : Nat) (O : (Nat → Nat → Option Nat)) (k7 : ((Nat → Nat → Int32) → Nat → Int32 → Int32 → Int32 → Option (Int32 × (Nat → Nat → Int32)))) : Nat → (Nat → Nat → Int32) → Nat → Int32 → Int32 → Int32 → Int32 → Option (Int32 × (Nat → Nat → Int32))
  | 0, _, _, _, _, _, _ => none
  | m + 1, I, b0, y1, y2, y3, y4 => (if (I (rO O (rO O b0 0) 0) 3) ≤ y4 then k7 I b0 y1 y2 (y3 + 1) else (f2_changes n I O (rO O b0 8) (rO O (rO O b0 0) 0) y3 y4).bind fun r5 => (if y2 ≤ r5.1 then f11_alike_c26 n O k7 m r5.2 b0 y1 y2 y3 (y4 + 1) else bl ((((10 : Int32) * y3) + y4) : Int32) fun z8 => f11_alike_c26 n O k7 m r5.2 b0 z8 r5.1 y3 (y4 + 1)))
set_option maxHeartbeats 4000000 in
set_option maxRecDepth 20000 in
theorem o11_alike_c26 {g : pG} {Qx : Option Value → pW → Prop} {Z : pZ} {L : (Nat → Nat → Int64)} {O : (Nat → Nat → Option Nat)} {n : Nat} {k7 : ((Nat → Nat → Int32) → Nat → Int32 → Int32 → Int32 → Option (Int32 × (Nat → Nat → Int32)))} {res : Int32 × (Nat → Nat → Int32)} (d : Nat) (hW : WT Z O) (hQ : Qx (some (.int res.1)) (Z, res.2, L, O)) (hk7 : ∀ (I : (Nat → Nat → Int32)) (b0 : Nat) (y1 : Int32) (y2 : Int32) (y3 : Int32), (Z[b0]? = some (11, 11)) → k7 I b0 y1 y2 y3 = some res → Ok g (d + 6, RX11, cX11_alike, 6, false, 0, 0, Z.length, pSl Z) Qx 7 [(0, .ref b0), (1, .int y1), (2, .int y2), (3, .int y3)] [] (Z, I, L, O)) : ∀ (m : Nat) (I : (Nat → Nat → Int32)) (b0 : Nat) (y1 : Int32) (y2 : Int32) (y3 : Int32) (y4 : Int32), (Z[b0]? = some (11, 11)) → f11_alike_c26 n O k7 m I b0 y1 y2 y3 y4 = some res → Ok g (d + 6, RX11, cX11_alike, 6, false, 0, 0, Z.length, pSl Z) Qx 26 [(0, .ref b0), (1, .int y1), (2, .int y2), (3, .int y3), (4, .int y4)] [] (Z, I, L, O) := by
  intro m
  induction m with
  | zero => intro I b0 y1 y2 y3 y4 hZ_b0 h; rw [f11_alike_c26] at h; cases h
  | succ m ih =>
    intro I b0 y1 y2 y3 y4 hZ_b0 h
    rw [f11_alike_c26] at h
    refine ok_iload dX11_alike_26 4 rfl ?_
    refine ok_aload_n dX11_alike_28 0 rfl ?_
    have hT1 : Z[(rO O b0 0)]? = some (9, 10) := (wt_f (ci := 11) (k := 0) hW hZ_b0 rfl).2
    refine ok_getR (ci := 11) (k := 0) dX11_alike_29 flRX11_10 rfl hW hZ_b0 (by decide) ?_
    have hT2 : Z[(rO O (rO O b0 0) 0)]? = some (10, 5) := (wt_f (ci := 9) (k := 0) hW hT1 rfl).2
    refine ok_getR (ci := 9) (k := 0) dX11_alike_32 flRX11_79 rfl hW hT1 (by decide) ?_
    refine ok_getI (ci := 10) (k := 3) dX11_alike_35 flRX11_256 rfl hT2 (by decide) ?_
    refine ok_icmp_ge (t := 83) dX11_alike_38 (by decide) (fun hc3 => ?_) (fun hc3 => ?_)
    · have h := (if_pos hc3).symm.trans h
      refine ok_iinc (u := (y3 + 1)) (l' := [(3, .int (y3 + 1)), (0, .ref b0), (1, .int y1), (2, .int y2), (4, .int y4)]) dX11_alike_83 3 rfl rfl (Nat.le_of_ble_eq_true rfl) rfl ?_
      refine ok_goto (t := 7) dX11_alike_86 (by decide) ?_
      refine ok_sub [1, 2, 3, 0] rfl ?_
      exact hk7 I b0 y1 y2 (y3 + 1) hZ_b0 h
    · have h := (if_neg hc3).symm.trans h
      refine ok_aload_n dX11_alike_41 0 rfl ?_
      have hT4 : Z[(rO O b0 8)]? = some (2, 10) := (wt_f (ci := 11) (k := 8) hW hZ_b0 rfl).2
      refine ok_getR (ci := 11) (k := 8) dX11_alike_42 flRX11_58 rfl hW hZ_b0 (by decide) ?_
      refine ok_aload_n dX11_alike_45 0 rfl ?_
      refine ok_getR (ci := 11) (k := 0) dX11_alike_46 flRX11_10 rfl hW hZ_b0 (by decide) ?_
      refine ok_getR (ci := 9) (k := 0) dX11_alike_49 flRX11_79 rfl hW hT1 (by decide) ?_
      refine ok_iload_n dX11_alike_52 3 rfl ?_
      refine ok_iload dX11_alike_53 4 rfl ?_
      obtain ⟨r5, hr6, h⟩ := bd h
      refine ok_callV (d := ((d + 0) + 5)) (mt := m2_changes) (mc := 0) (ms := 0) (As := [.ref (rO O (rO O b0 0) 0), .int y3, .int y4]) (r := []) dX11_alike_55 mo2_changes mv2_changes lkRX11_272 rfl hT4 (q := (RX2, TX2, 10)) rfl rfl rfl (Nat.le_of_ble_eq_true rfl) (by show _ + 1 ≤ d + _; omega) (Nat.le_refl _) (Nat.le_refl _) (pRt_mono ?_)
      refine k2_changes (d + 0) hW hT4 hT2 hr6 ?_
      intro _
      show Ok g _ Qx 58 [(0, .ref b0), (1, .int y1), (2, .int y2), (3, .int y3), (4, .int y4)] [.int r5.1] (Z, r5.2, L, O)
      refine ok_istore (l' := [(5, .int r5.1), (0, .ref b0), (1, .int y1), (2, .int y2), (3, .int y3), (4, .int y4)]) dX11_alike_58 (Nat.le_of_ble_eq_true rfl) rfl ?_
      refine ok_iload dX11_alike_60 0 rfl ?_
      refine ok_iload_n dX11_alike_62 3 rfl ?_
      refine ok_icmp_ge (t := 77) dX11_alike_63 (by decide) (fun hc7 => ?_) (fun hc7 => ?_)
      · have h := (if_pos hc7).symm.trans h
        refine ok_iinc (u := (y4 + 1)) (l' := [(4, .int (y4 + 1)), (5, .int r5.1), (0, .ref b0), (1, .int y1), (2, .int y2), (3, .int y3)]) dX11_alike_77 5 rfl rfl (Nat.le_of_ble_eq_true rfl) rfl ?_
        refine ok_goto (t := 26) dX11_alike_80 (by decide) ?_
        refine ok_sub [2, 3, 4, 5, 0] rfl ?_
        exact ih r5.2 b0 y1 y2 y3 (y4 + 1) hZ_b0 h
      · have h := (if_neg hc7).symm.trans h
        refine ok_iload dX11_alike_66 0 rfl ?_
        refine ok_istore_n (l' := [(2, .int r5.1), (5, .int r5.1), (0, .ref b0), (1, .int y1), (3, .int y3), (4, .int y4)]) dX11_alike_68 rfl (Nat.le_of_ble_eq_true rfl) rfl ?_
        refine ok_bipush (v := 10) dX11_alike_69 (by decide) ?_
        refine ok_iload_n dX11_alike_71 4 rfl ?_
        refine ok_imul dX11_alike_72 ?_
        refine ok_iload dX11_alike_73 5 rfl ?_
        refine ok_iadd dX11_alike_75 ?_
        obtain ⟨z8, ez8, h⟩ := blE h
        refine ok_nm ez8 ?_
        refine ok_istore_n (l' := [(1, .int z8), (2, .int r5.1), (5, .int r5.1), (0, .ref b0), (3, .int y3), (4, .int y4)]) dX11_alike_76 rfl (Nat.le_of_ble_eq_true rfl) rfl ?_
        refine ok_iinc (u := (y4 + 1)) (l' := [(4, .int (y4 + 1)), (1, .int z8), (2, .int r5.1), (5, .int r5.1), (0, .ref b0), (3, .int y3)]) dX11_alike_77 5 rfl rfl (Nat.le_of_ble_eq_true rfl) rfl ?_
        refine ok_goto (t := 26) dX11_alike_80 (by decide) ?_
        refine ok_sub [4, 1, 2, 5, 0] rfl ?_
        exact ih r5.2 b0 z8 r5.1 y3 (y4 + 1) hZ_b0 h
def f11_alike_c7 (n : Nat) (O : (Nat → Nat → Option Nat)) : Nat → (Nat → Nat → Int32) → Nat → Int32 → Int32 → Int32 → Option (Int32 × (Nat → Nat → Int32))
  | 0, _, _, _, _, _ => none
  | m + 1, I, b0, y1, y2, y3 => (if (I (rO O (rO O b0 0) 0) 3) ≤ y3 then some (y1, I) else f11_alike_c26 n O (f11_alike_c7 n O m) n I b0 y1 y2 y3 (y3 + 1))
set_option maxHeartbeats 4000000 in
set_option maxRecDepth 20000 in
theorem o11_alike_c7 {g : pG} {Qx : Option Value → pW → Prop} {Z : pZ} {L : (Nat → Nat → Int64)} {O : (Nat → Nat → Option Nat)} {n : Nat} {res : Int32 × (Nat → Nat → Int32)} (d : Nat) (hW : WT Z O) (hQ : Qx (some (.int res.1)) (Z, res.2, L, O)) : ∀ (m : Nat) (I : (Nat → Nat → Int32)) (b0 : Nat) (y1 : Int32) (y2 : Int32) (y3 : Int32), (Z[b0]? = some (11, 11)) → f11_alike_c7 n O m I b0 y1 y2 y3 = some res → Ok g (d + 6, RX11, cX11_alike, 6, false, 0, 0, Z.length, pSl Z) Qx 7 [(0, .ref b0), (1, .int y1), (2, .int y2), (3, .int y3)] [] (Z, I, L, O) := by
  intro m
  induction m with
  | zero => intro I b0 y1 y2 y3 hZ_b0 h; rw [f11_alike_c7] at h; cases h
  | succ m ih =>
    intro I b0 y1 y2 y3 hZ_b0 h
    rw [f11_alike_c7] at h
    refine ok_iload_n dX11_alike_7 3 rfl ?_
    refine ok_aload_n dX11_alike_8 0 rfl ?_
    have hT1 : Z[(rO O b0 0)]? = some (9, 10) := (wt_f (ci := 11) (k := 0) hW hZ_b0 rfl).2
    refine ok_getR (ci := 11) (k := 0) dX11_alike_9 flRX11_10 rfl hW hZ_b0 (by decide) ?_
    have hT2 : Z[(rO O (rO O b0 0) 0)]? = some (10, 5) := (wt_f (ci := 9) (k := 0) hW hT1 rfl).2
    refine ok_getR (ci := 9) (k := 0) dX11_alike_12 flRX11_79 rfl hW hT1 (by decide) ?_
    refine ok_getI (ci := 10) (k := 3) dX11_alike_15 flRX11_256 rfl hT2 (by decide) ?_
    refine ok_icmp_ge (t := 89) dX11_alike_18 (by decide) (fun hc3 => ?_) (fun hc3 => ?_)
    · have h := (if_pos hc3).symm.trans h
      refine ok_iload_n dX11_alike_89 1 rfl ?_
      cases h
      exact ok_iret dX11_alike_90 hQ
    · have h := (if_neg hc3).symm.trans h
      refine ok_iload_n dX11_alike_21 3 rfl ?_
      refine ok_iconst (v := 1) dX11_alike_22 (by decide) ?_
      refine ok_iadd dX11_alike_23 ?_
      refine ok_istore (l' := [(4, .int (y3 + 1)), (0, .ref b0), (1, .int y1), (2, .int y2), (3, .int y3)]) dX11_alike_24 (Nat.le_of_ble_eq_true rfl) rfl ?_
      refine ok_sub [1, 2, 3, 4, 0] rfl ?_
      exact o11_alike_c26 d hW hQ ih n I b0 y1 y2 y3 (y3 + 1) hZ_b0 h
def f11_alike (n : Nat) (I : (Nat → Nat → Int32)) (O : (Nat → Nat → Option Nat)) (a0 : Nat) : Option (Int32 × (Nat → Nat → Int32)) := f11_alike_c7 n O n I a0 (-1 : Int32) (32 : Int32) (0 : Int32)
set_option maxHeartbeats 4000000 in
set_option maxRecDepth 20000 in
theorem o11_alike {g : pG} {Qx : Option Value → pW → Prop} {Z : pZ} {I : (Nat → Nat → Int32)} {L : (Nat → Nat → Int64)} {O : (Nat → Nat → Option Nat)} {n : Nat} {a0 : Nat} {res : Int32 × (Nat → Nat → Int32)} (d : Nat) (hW : WT Z O) (hZ0 : Z[a0]? = some (11, 11)) (h : f11_alike n I O a0 = some res) (hQ : Qx (some (.int res.1)) (Z, res.2, L, O)) : Ok g (d + 6, RX11, cX11_alike, 6, false, 0, 0, Z.length, pSl Z) Qx 0 [(0, .ref a0)] [] (Z, I, L, O) := by
  unfold f11_alike at h
  refine ok_iconst (v := (-1)) dX11_alike_0 (by decide) ?_
  refine ok_istore_n (l' := [(1, .int (-1)), (0, .ref a0)]) dX11_alike_1 rfl (Nat.le_of_ble_eq_true rfl) rfl ?_
  refine ok_bipush (v := 32) dX11_alike_2 (by decide) ?_
  refine ok_istore_n (l' := [(2, .int 32), (1, .int (-1)), (0, .ref a0)]) dX11_alike_4 rfl (Nat.le_of_ble_eq_true rfl) rfl ?_
  refine ok_iconst (v := 0) dX11_alike_5 (by decide) ?_
  refine ok_istore_n (l' := [(3, .int 0), (2, .int 32), (1, .int (-1)), (0, .ref a0)]) dX11_alike_6 rfl (Nat.le_of_ble_eq_true rfl) rfl ?_
  refine ok_sub [3, 2, 1, 0] rfl ?_
  exact o11_alike_c7 d hW hQ  n I a0 (-1 : Int32) (32 : Int32) (0 : Int32) hZ0 h
theorem k11_alike {g : pG} {Q : Option Value → pW → Prop} {Z : pZ} {I : (Nat → Nat → Int32)} {L : (Nat → Nat → Int64)} {O : (Nat → Nat → Option Nat)} {n : Nat} {a0 : Nat} {res : Int32 × (Nat → Nat → Int32)} (d : Nat) (hW : WT Z O) (hZ0 : Z[a0]? = some (11, 11)) (h : f11_alike n I O a0 = some res) (hQ : Q (some (.int res.1)) (Z, res.2, L, O)) : CT g (d + 6) m11_alike 0 0 [.ref a0] (Z, I, L, O) Q :=
  ct_of_ok (mt := m11_alike) (ini := false) mo11_alike.2.2.2.2 (fun h => by cases h) (Nat.le_of_ble_eq_true rfl) (o11_alike d hW hZ0 h ⟨trivial, hQ, rfl, rfl⟩)
theorem dX11_said_0 : decode cX11_said 0 = .ok (.iload_n 1, 1) := by decide +kernel
theorem dX11_said_1 : decode cX11_said 1 = .ok (.iconst (-1), 1) := by decide +kernel
theorem dX11_said_2 : decode cX11_said 2 = .ok (.if_icmp .ne 13, 3) := by decide +kernel
theorem dX11_said_5 : decode cX11_said 5 = .ok (.aload_n 0, 1) := by decide +kernel
theorem dX11_said_6 : decode cX11_said 6 = .ok (.getfield 10, 3) := by decide +kernel
theorem dX11_said_9 : decode cX11_said 9 = .ok (.iconst 0, 1) := by decide +kernel
theorem dX11_said_10 : decode cX11_said 10 = .ok (.putfield 355, 3) := by decide +kernel
theorem dX11_said_13 : decode cX11_said 13 = .ok (.iconst 0, 1) := by decide +kernel
theorem dX11_said_14 : decode cX11_said 14 = .ok (.ireturn, 1) := by decide +kernel
theorem dX11_said_15 : decode cX11_said 15 = .ok (.aload_n 0, 1) := by decide +kernel
theorem dX11_said_16 : decode cX11_said 16 = .ok (.getfield 10, 3) := by decide +kernel
theorem dX11_said_19 : decode cX11_said 19 = .ok (.getfield 79, 3) := by decide +kernel
theorem dX11_said_22 : decode cX11_said 22 = .ok (.iload_n 1, 1) := by decide +kernel
theorem dX11_said_23 : decode cX11_said 23 = .ok (.iload_n 2, 1) := by decide +kernel
theorem dX11_said_24 : decode cX11_said 24 = .ok (.invokevirtual 176, 3) := by decide +kernel
theorem dX11_said_27 : decode cX11_said 27 = .ok (.iconst (-1), 1) := by decide +kernel
theorem dX11_said_28 : decode cX11_said 28 = .ok (.if_icmp .eq 25, 3) := by decide +kernel
theorem dX11_said_31 : decode cX11_said 31 = .ok (.iload_n 3, 1) := by decide +kernel
theorem dX11_said_32 : decode cX11_said 32 = .ok (.ifCond .lt 21, 3) := by decide +kernel
theorem dX11_said_35 : decode cX11_said 35 = .ok (.iload_n 3, 1) := by decide +kernel
theorem dX11_said_36 : decode cX11_said 36 = .ok (.bipush 99, 2) := by decide +kernel
theorem dX11_said_38 : decode cX11_said 38 = .ok (.if_icmp .gt 15, 3) := by decide +kernel
theorem dX11_said_41 : decode cX11_said 41 = .ok (.aload_n 0, 1) := by decide +kernel
theorem dX11_said_42 : decode cX11_said 42 = .ok (.getfield 10, 3) := by decide +kernel
theorem dX11_said_45 : decode cX11_said 45 = .ok (.getfield 355, 3) := by decide +kernel
theorem dX11_said_48 : decode cX11_said 48 = .ok (.bipush 8, 2) := by decide +kernel
theorem dX11_said_50 : decode cX11_said 50 = .ok (.if_icmp .lt 6, 3) := by decide +kernel
theorem dX11_said_53 : decode cX11_said 53 = .ok (.bipush (-2), 2) := by decide +kernel
theorem dX11_said_55 : decode cX11_said 55 = .ok (.ireturn, 1) := by decide +kernel
theorem dX11_said_56 : decode cX11_said 56 = .ok (.aload_n 0, 1) := by decide +kernel
theorem dX11_said_57 : decode cX11_said 57 = .ok (.getfield 10, 3) := by decide +kernel
theorem dX11_said_60 : decode cX11_said 60 = .ok (.getfield 358, 3) := by decide +kernel
theorem dX11_said_63 : decode cX11_said 63 = .ok (.aload_n 0, 1) := by decide +kernel
theorem dX11_said_64 : decode cX11_said 64 = .ok (.getfield 10, 3) := by decide +kernel
theorem dX11_said_67 : decode cX11_said 67 = .ok (.getfield 355, 3) := by decide +kernel
theorem dX11_said_70 : decode cX11_said 70 = .ok (.iload_n 1, 1) := by decide +kernel
theorem dX11_said_71 : decode cX11_said 71 = .ok (.iastore, 1) := by decide +kernel
theorem dX11_said_72 : decode cX11_said 72 = .ok (.aload_n 0, 1) := by decide +kernel
theorem dX11_said_73 : decode cX11_said 73 = .ok (.getfield 10, 3) := by decide +kernel
theorem dX11_said_76 : decode cX11_said 76 = .ok (.getfield 361, 3) := by decide +kernel
theorem dX11_said_79 : decode cX11_said 79 = .ok (.aload_n 0, 1) := by decide +kernel
theorem dX11_said_80 : decode cX11_said 80 = .ok (.getfield 10, 3) := by decide +kernel
theorem dX11_said_83 : decode cX11_said 83 = .ok (.getfield 355, 3) := by decide +kernel
theorem dX11_said_86 : decode cX11_said 86 = .ok (.iload_n 2, 1) := by decide +kernel
theorem dX11_said_87 : decode cX11_said 87 = .ok (.iastore, 1) := by decide +kernel
theorem dX11_said_88 : decode cX11_said 88 = .ok (.aload_n 0, 1) := by decide +kernel
theorem dX11_said_89 : decode cX11_said 89 = .ok (.getfield 10, 3) := by decide +kernel
theorem dX11_said_92 : decode cX11_said 92 = .ok (.getfield 364, 3) := by decide +kernel
theorem dX11_said_95 : decode cX11_said 95 = .ok (.aload_n 0, 1) := by decide +kernel
theorem dX11_said_96 : decode cX11_said 96 = .ok (.getfield 10, 3) := by decide +kernel
theorem dX11_said_99 : decode cX11_said 99 = .ok (.getfield 355, 3) := by decide +kernel
theorem dX11_said_102 : decode cX11_said 102 = .ok (.iload_n 3, 1) := by decide +kernel
theorem dX11_said_103 : decode cX11_said 103 = .ok (.iastore, 1) := by decide +kernel
theorem dX11_said_104 : decode cX11_said 104 = .ok (.aload_n 0, 1) := by decide +kernel
theorem dX11_said_105 : decode cX11_said 105 = .ok (.getfield 10, 3) := by decide +kernel
theorem dX11_said_108 : decode cX11_said 108 = .ok (.dup, 1) := by decide +kernel
theorem dX11_said_109 : decode cX11_said 109 = .ok (.getfield 355, 3) := by decide +kernel
theorem dX11_said_112 : decode cX11_said 112 = .ok (.iconst 1, 1) := by decide +kernel
theorem dX11_said_113 : decode cX11_said 113 = .ok (.iadd, 1) := by decide +kernel
theorem dX11_said_114 : decode cX11_said 114 = .ok (.putfield 355, 3) := by decide +kernel
theorem dX11_said_117 : decode cX11_said 117 = .ok (.aload_n 0, 1) := by decide +kernel
theorem dX11_said_118 : decode cX11_said 118 = .ok (.getfield 10, 3) := by decide +kernel
theorem dX11_said_121 : decode cX11_said 121 = .ok (.getfield 355, 3) := by decide +kernel
theorem dX11_said_124 : decode cX11_said 124 = .ok (.ireturn, 1) := by decide +kernel
def m11_said : pMT := (yX11_said, cX11_said, 4, some .int)
theorem mo11_said : mOK m11_said 3 := ⟨tb_i 1235 (by decide +kernel), wi_RX11, ⟨wn_RX11.1, wn_RX11.2, by decide +kernel⟩, by decide, plainFor_of_name wp_RX11⟩
theorem mv11_said : mV m11_said := ⟨tb_i 1233 (by decide +kernel), tb_i 1234 (by decide +kernel)⟩
def f11_said (I : (Nat → Nat → Int32)) (O : (Nat → Nat → Option Nat)) (a0 : Nat) (x1 : Int32) (x2 : Int32) (x3 : Int32) : Option (Int32 × (Nat → Nat → Int32)) := (if x1 = (-1 : Int32) then bl (sI I (rO O a0 0) 7 (0 : Int32)) fun I21 => some ((0 : Int32), I21) else (f10_heardBy I O (rO O (rO O a0 0) 0) x1 x2).bind fun r4 => (if r4 = (-1 : Int32) then some (((-2) : Int32), I) else (if x3 < 0 then some (((-2) : Int32), I) else (if (99 : Int32) < x3 then some (((-2) : Int32), I) else (if (I (rO O a0 0) 7) < (8 : Int32) then (if (I (rO O a0 0) 7) < 0 ∨ 8 ≤ (I (rO O a0 0) 7).toNatClampNeg then none else bl (sI I (rO O (rO O a0 0) 3) (I (rO O a0 0) 7).toNatClampNeg x1) fun I12 => (if (I12 (rO O a0 0) 7) < 0 ∨ 8 ≤ (I12 (rO O a0 0) 7).toNatClampNeg then none else bl (sI I12 (rO O (rO O a0 0) 4) (I12 (rO O a0 0) 7).toNatClampNeg x2) fun I15 => (if (I15 (rO O a0 0) 7) < 0 ∨ 8 ≤ (I15 (rO O a0 0) 7).toNatClampNeg then none else bl (sI I15 (rO O (rO O a0 0) 5) (I15 (rO O a0 0) 7).toNatClampNeg x3) fun I18 => bl (sI I18 (rO O a0 0) 7 ((I18 (rO O a0 0) 7) + 1)) fun I19 => some ((I19 (rO O a0 0) 7), I19)))) else some (((-2) : Int32), I))))))
set_option maxHeartbeats 4000000 in
set_option maxRecDepth 20000 in
theorem o11_said {g : pG} {Qx : Option Value → pW → Prop} {Z : pZ} {I : (Nat → Nat → Int32)} {L : (Nat → Nat → Int64)} {O : (Nat → Nat → Option Nat)} {a0 : Nat} {x1 : Int32} {x2 : Int32} {x3 : Int32} {res : Int32 × (Nat → Nat → Int32)} (d : Nat) (hW : WT Z O) (hZ0 : Z[a0]? = some (11, 11)) (h : f11_said I O a0 x1 x2 x3 = some res) (hQ : Qx (some (.int res.1)) (Z, res.2, L, O)) : Ok g (d + 4, RX11, cX11_said, 4, false, 0, 0, Z.length, pSl Z) Qx 0 [(0, .ref a0), (1, .int x1), (2, .int x2), (3, .int x3)] [] (Z, I, L, O) := by
  unfold f11_said at h
  refine ok_iload_n dX11_said_0 1 rfl ?_
  refine ok_iconst (v := (-1)) dX11_said_1 (by decide) ?_
  refine ok_icmp_ne (t := 15) dX11_said_2 (by decide) (fun hc1 => ?_) (fun hc1 => ?_)
  · have h := (if_neg hc1).symm.trans h
    refine ok_aload_n dX11_said_15 0 rfl ?_
    have hT2 : Z[(rO O a0 0)]? = some (9, 10) := (wt_f (ci := 11) (k := 0) hW hZ0 rfl).2
    refine ok_getR (ci := 11) (k := 0) dX11_said_16 flRX11_10 rfl hW hZ0 (by decide) ?_
    have hT3 : Z[(rO O (rO O a0 0) 0)]? = some (10, 5) := (wt_f (ci := 9) (k := 0) hW hT2 rfl).2
    refine ok_getR (ci := 9) (k := 0) dX11_said_19 flRX11_79 rfl hW hT2 (by decide) ?_
    refine ok_iload_n dX11_said_22 1 rfl ?_
    refine ok_iload_n dX11_said_23 2 rfl ?_
    obtain ⟨r4, hr5, h⟩ := bd h
    refine ok_callV (d := ((d + 0) + 3)) (mt := m10_heardBy) (mc := 0) (ms := 0) (As := [.int x1, .int x2]) (r := []) dX11_said_24 mo10_heardBy mv10_heardBy lkRX11_176 rfl hT3 (q := (RX10, TX10, 5)) rfl rfl rfl (Nat.le_of_ble_eq_true rfl) (by show _ + 1 ≤ d + _; omega) (Nat.le_refl _) (Nat.le_refl _) (pRt_mono ?_)
    refine k10_heardBy (d + 0) hW hT3 hr5 ?_
    intro _
    show Ok g _ Qx 27 [(0, .ref a0), (1, .int x1), (2, .int x2), (3, .int x3)] [.int r4] (Z, I, L, O)
    refine ok_iconst (v := (-1)) dX11_said_27 (by decide) ?_
    refine ok_icmp_eq (t := 53) dX11_said_28 (by decide) (fun hc6 => ?_) (fun hc6 => ?_)
    · have h := (if_pos hc6).symm.trans h
      refine ok_bipush (v := (-2)) dX11_said_53 (by decide) ?_
      cases h
      exact ok_iret dX11_said_55 hQ
    · have h := (if_neg hc6).symm.trans h
      refine ok_iload_n dX11_said_31 3 rfl ?_
      refine ok_if_lt (t := 53) dX11_said_32 (by decide) (fun hc7 => ?_) (fun hc7 => ?_)
      · have h := (if_pos hc7).symm.trans h
        refine ok_bipush (v := (-2)) dX11_said_53 (by decide) ?_
        cases h
        exact ok_iret dX11_said_55 hQ
      · have h := (if_neg hc7).symm.trans h
        refine ok_iload_n dX11_said_35 3 rfl ?_
        refine ok_bipush (v := 99) dX11_said_36 (by decide) ?_
        refine ok_icmp_gt (t := 53) dX11_said_38 (by decide) (fun hc8 => ?_) (fun hc8 => ?_)
        · have h := (if_pos hc8).symm.trans h
          refine ok_bipush (v := (-2)) dX11_said_53 (by decide) ?_
          cases h
          exact ok_iret dX11_said_55 hQ
        · have h := (if_neg hc8).symm.trans h
          refine ok_aload_n dX11_said_41 0 rfl ?_
          refine ok_getR (ci := 11) (k := 0) dX11_said_42 flRX11_10 rfl hW hZ0 (by decide) ?_
          refine ok_getI (ci := 9) (k := 7) dX11_said_45 flRX11_355 rfl hT2 (by decide) ?_
          refine ok_bipush (v := 8) dX11_said_48 (by decide) ?_
          refine ok_icmp_lt (t := 56) dX11_said_50 (by decide) (fun hc9 => ?_) (fun hc9 => ?_)
          · have h := (if_pos hc9).symm.trans h
            refine ok_aload_n dX11_said_56 0 rfl ?_
            refine ok_getR (ci := 11) (k := 0) dX11_said_57 flRX11_10 rfl hW hZ0 (by decide) ?_
            have hT10 : Z[(rO O (rO O a0 0) 3)]? = some (13, 8) := (wt_f (ci := 9) (k := 3) hW hT2 rfl).2
            refine ok_getR (ci := 9) (k := 3) dX11_said_60 flRX11_358 rfl hW hT2 (by decide) ?_
            refine ok_aload_n dX11_said_63 0 rfl ?_
            refine ok_getR (ci := 11) (k := 0) dX11_said_64 flRX11_10 rfl hW hZ0 (by decide) ?_
            refine ok_getI (ci := 9) (k := 7) dX11_said_67 flRX11_355 rfl hT2 (by decide) ?_
            refine ok_iload_n dX11_said_70 1 rfl ?_
            obtain ⟨hg11, h⟩ := gd h
            obtain ⟨I12, eI12, h⟩ := blE h
            refine ok_iast3 dX11_said_71 hT10 hg11 rfl eI12 ?_
            refine ok_aload_n dX11_said_72 0 rfl ?_
            refine ok_getR (ci := 11) (k := 0) dX11_said_73 flRX11_10 rfl hW hZ0 (by decide) ?_
            have hT13 : Z[(rO O (rO O a0 0) 4)]? = some (13, 8) := (wt_f (ci := 9) (k := 4) hW hT2 rfl).2
            refine ok_getR (ci := 9) (k := 4) dX11_said_76 flRX11_361 rfl hW hT2 (by decide) ?_
            refine ok_aload_n dX11_said_79 0 rfl ?_
            refine ok_getR (ci := 11) (k := 0) dX11_said_80 flRX11_10 rfl hW hZ0 (by decide) ?_
            refine ok_getI (ci := 9) (k := 7) dX11_said_83 flRX11_355 rfl hT2 (by decide) ?_
            refine ok_iload_n dX11_said_86 2 rfl ?_
            obtain ⟨hg14, h⟩ := gd h
            obtain ⟨I15, eI15, h⟩ := blE h
            refine ok_iast3 dX11_said_87 hT13 hg14 rfl eI15 ?_
            refine ok_aload_n dX11_said_88 0 rfl ?_
            refine ok_getR (ci := 11) (k := 0) dX11_said_89 flRX11_10 rfl hW hZ0 (by decide) ?_
            have hT16 : Z[(rO O (rO O a0 0) 5)]? = some (13, 8) := (wt_f (ci := 9) (k := 5) hW hT2 rfl).2
            refine ok_getR (ci := 9) (k := 5) dX11_said_92 flRX11_364 rfl hW hT2 (by decide) ?_
            refine ok_aload_n dX11_said_95 0 rfl ?_
            refine ok_getR (ci := 11) (k := 0) dX11_said_96 flRX11_10 rfl hW hZ0 (by decide) ?_
            refine ok_getI (ci := 9) (k := 7) dX11_said_99 flRX11_355 rfl hT2 (by decide) ?_
            refine ok_iload_n dX11_said_102 3 rfl ?_
            obtain ⟨hg17, h⟩ := gd h
            obtain ⟨I18, eI18, h⟩ := blE h
            refine ok_iast3 dX11_said_103 hT16 hg17 rfl eI18 ?_
            refine ok_aload_n dX11_said_104 0 rfl ?_
            refine ok_getR (ci := 11) (k := 0) dX11_said_105 flRX11_10 rfl hW hZ0 (by decide) ?_
            refine ok_dup dX11_said_108 rfl ?_
            refine ok_getI (ci := 9) (k := 7) dX11_said_109 flRX11_355 rfl hT2 (by decide) ?_
            refine ok_iconst (v := 1) dX11_said_112 (by decide) ?_
            refine ok_iadd dX11_said_113 ?_
            obtain ⟨I19, eI19, h⟩ := blE h
            refine ok_putI2 (ci := 9) (k := 7) dX11_said_114 flRX11_355 rfl (Or.inl rfl) hT2 (by decide) eI19 ?_
            refine ok_aload_n dX11_said_117 0 rfl ?_
            refine ok_getR (ci := 11) (k := 0) dX11_said_118 flRX11_10 rfl hW hZ0 (by decide) ?_
            refine ok_getI (ci := 9) (k := 7) dX11_said_121 flRX11_355 rfl hT2 (by decide) ?_
            cases h
            exact ok_iret dX11_said_124 hQ
          · have h := (if_neg hc9).symm.trans h
            refine ok_bipush (v := (-2)) dX11_said_53 (by decide) ?_
            cases h
            exact ok_iret dX11_said_55 hQ
  · have h := (if_pos hc1).symm.trans h
    refine ok_aload_n dX11_said_5 0 rfl ?_
    have hT20 : Z[(rO O a0 0)]? = some (9, 10) := (wt_f (ci := 11) (k := 0) hW hZ0 rfl).2
    refine ok_getR (ci := 11) (k := 0) dX11_said_6 flRX11_10 rfl hW hZ0 (by decide) ?_
    refine ok_iconst (v := 0) dX11_said_9 (by decide) ?_
    obtain ⟨I21, eI21, h⟩ := blE h
    refine ok_putI2 (ci := 9) (k := 7) dX11_said_10 flRX11_355 rfl (Or.inl rfl) hT20 (by decide) eI21 ?_
    refine ok_iconst (v := 0) dX11_said_13 (by decide) ?_
    cases h
    exact ok_iret dX11_said_14 hQ
theorem k11_said {g : pG} {Q : Option Value → pW → Prop} {Z : pZ} {I : (Nat → Nat → Int32)} {L : (Nat → Nat → Int64)} {O : (Nat → Nat → Option Nat)} {a0 : Nat} {x1 : Int32} {x2 : Int32} {x3 : Int32} {res : Int32 × (Nat → Nat → Int32)} (d : Nat) (hW : WT Z O) (hZ0 : Z[a0]? = some (11, 11)) (h : f11_said I O a0 x1 x2 x3 = some res) (hQ : Q (some (.int res.1)) (Z, res.2, L, O)) : CT g (d + 4) m11_said 0 0 [.ref a0, .int x1, .int x2, .int x3] (Z, I, L, O) Q :=
  ct_of_ok (mt := m11_said) (ini := false) mo11_said.2.2.2.2 (fun h => by cases h) (Nat.le_of_ble_eq_true rfl) (o11_said d hW hZ0 h ⟨trivial, hQ, rfl, rfl⟩)
theorem dX11_agrees_0 : decode cX11_agrees 0 = .ok (.iconst 0, 1) := by decide +kernel
theorem dX11_agrees_1 : decode cX11_agrees 1 = .ok (.istore_n 2, 1) := by decide +kernel
theorem dX11_agrees_2 : decode cX11_agrees 2 = .ok (.iload_n 2, 1) := by decide +kernel
theorem dX11_agrees_3 : decode cX11_agrees 3 = .ok (.aload_n 0, 1) := by decide +kernel
theorem dX11_agrees_4 : decode cX11_agrees 4 = .ok (.getfield 10, 3) := by decide +kernel
theorem dX11_agrees_7 : decode cX11_agrees 7 = .ok (.getfield 355, 3) := by decide +kernel
theorem dX11_agrees_10 : decode cX11_agrees 10 = .ok (.if_icmp .ge 85, 3) := by decide +kernel
theorem dX11_agrees_13 : decode cX11_agrees 13 = .ok (.iload_n 2, 1) := by decide +kernel
theorem dX11_agrees_14 : decode cX11_agrees 14 = .ok (.bipush 8, 2) := by decide +kernel
theorem dX11_agrees_16 : decode cX11_agrees 16 = .ok (.if_icmp .ge 79, 3) := by decide +kernel
theorem dX11_agrees_19 : decode cX11_agrees 19 = .ok (.aload_n 0, 1) := by decide +kernel
theorem dX11_agrees_20 : decode cX11_agrees 20 = .ok (.getfield 10, 3) := by decide +kernel
theorem dX11_agrees_23 : decode cX11_agrees 23 = .ok (.getfield 358, 3) := by decide +kernel
theorem dX11_agrees_26 : decode cX11_agrees 26 = .ok (.iload_n 2, 1) := by decide +kernel
theorem dX11_agrees_27 : decode cX11_agrees 27 = .ok (.iaload, 1) := by decide +kernel
theorem dX11_agrees_28 : decode cX11_agrees 28 = .ok (.istore_n 3, 1) := by decide +kernel
theorem dX11_agrees_29 : decode cX11_agrees 29 = .ok (.aload_n 0, 1) := by decide +kernel
theorem dX11_agrees_30 : decode cX11_agrees 30 = .ok (.getfield 10, 3) := by decide +kernel
theorem dX11_agrees_33 : decode cX11_agrees 33 = .ok (.getfield 361, 3) := by decide +kernel
theorem dX11_agrees_36 : decode cX11_agrees 36 = .ok (.iload_n 2, 1) := by decide +kernel
theorem dX11_agrees_37 : decode cX11_agrees 37 = .ok (.iaload, 1) := by decide +kernel
theorem dX11_agrees_38 : decode cX11_agrees 38 = .ok (.istore 4, 2) := by decide +kernel
theorem dX11_agrees_40 : decode cX11_agrees 40 = .ok (.aload_n 0, 1) := by decide +kernel
theorem dX11_agrees_41 : decode cX11_agrees 41 = .ok (.getfield 42, 3) := by decide +kernel
theorem dX11_agrees_44 : decode cX11_agrees 44 = .ok (.aload_n 1, 1) := by decide +kernel
theorem dX11_agrees_45 : decode cX11_agrees 45 = .ok (.aload_n 0, 1) := by decide +kernel
theorem dX11_agrees_46 : decode cX11_agrees 46 = .ok (.getfield 10, 3) := by decide +kernel
theorem dX11_agrees_49 : decode cX11_agrees 49 = .ok (.getfield 79, 3) := by decide +kernel
theorem dX11_agrees_52 : decode cX11_agrees 52 = .ok (.iload_n 3, 1) := by decide +kernel
theorem dX11_agrees_53 : decode cX11_agrees 53 = .ok (.iload 4, 2) := by decide +kernel
theorem dX11_agrees_55 : decode cX11_agrees 55 = .ok (.aload_n 0, 1) := by decide +kernel
theorem dX11_agrees_56 : decode cX11_agrees 56 = .ok (.getfield 10, 3) := by decide +kernel
theorem dX11_agrees_59 : decode cX11_agrees 59 = .ok (.getfield 79, 3) := by decide +kernel
theorem dX11_agrees_62 : decode cX11_agrees 62 = .ok (.iload_n 3, 1) := by decide +kernel
theorem dX11_agrees_63 : decode cX11_agrees 63 = .ok (.iload 4, 2) := by decide +kernel
theorem dX11_agrees_65 : decode cX11_agrees 65 = .ok (.invokevirtual 250, 3) := by decide +kernel
theorem dX11_agrees_68 : decode cX11_agrees 68 = .ok (.invokevirtual 253, 3) := by decide +kernel
theorem dX11_agrees_71 : decode cX11_agrees 71 = .ok (.istore 5, 2) := by decide +kernel
theorem dX11_agrees_73 : decode cX11_agrees 73 = .ok (.iload 5, 2) := by decide +kernel
theorem dX11_agrees_75 : decode cX11_agrees 75 = .ok (.aload_n 0, 1) := by decide +kernel
theorem dX11_agrees_76 : decode cX11_agrees 76 = .ok (.getfield 10, 3) := by decide +kernel
theorem dX11_agrees_79 : decode cX11_agrees 79 = .ok (.getfield 364, 3) := by decide +kernel
theorem dX11_agrees_82 : decode cX11_agrees 82 = .ok (.iload_n 2, 1) := by decide +kernel
theorem dX11_agrees_83 : decode cX11_agrees 83 = .ok (.iaload, 1) := by decide +kernel
theorem dX11_agrees_84 : decode cX11_agrees 84 = .ok (.if_icmp .eq 5, 3) := by decide +kernel
theorem dX11_agrees_87 : decode cX11_agrees 87 = .ok (.iconst 0, 1) := by decide +kernel
theorem dX11_agrees_88 : decode cX11_agrees 88 = .ok (.ireturn, 1) := by decide +kernel
theorem dX11_agrees_89 : decode cX11_agrees 89 = .ok (.iinc 2 1, 3) := by decide +kernel
theorem dX11_agrees_92 : decode cX11_agrees 92 = .ok (.goto (-90), 3) := by decide +kernel
theorem dX11_agrees_95 : decode cX11_agrees 95 = .ok (.iconst 1, 1) := by decide +kernel
theorem dX11_agrees_96 : decode cX11_agrees 96 = .ok (.ireturn, 1) := by decide +kernel
def m11_agrees : pMT := (yX11_agrees, cX11_agrees, 6, some .boolean)
theorem mo11_agrees : mOK m11_agrees 1 := ⟨tb_i 1243 (by decide +kernel), wi_RX11, ⟨wn_RX11.1, wn_RX11.2, by decide +kernel⟩, by decide, plainFor_of_name wp_RX11⟩
theorem mv11_agrees : mV m11_agrees := ⟨tb_i 1242 (by decide +kernel), tb_p 57 (by decide +kernel)⟩
def f11_agrees_c2 (n : Nat) (O : (Nat → Nat → Option Nat)) : Nat → (Nat → Nat → Int32) → Nat → Nat → Int32 → Option (Int32 × (Nat → Nat → Int32))
  | 0, _, _, _, _ => none
  | m + 1, I, b0, b1, y2 => (if (I (rO O b0 0) 7) ≤ y2 then some ((1 : Int32), I) else (if (8 : Int32) ≤ y2 then some ((1 : Int32), I) else (if y2 < 0 ∨ 8 ≤ y2.toNatClampNeg then none else bl ((I (rO O (rO O b0 0) 3) y2.toNatClampNeg) : Int32) fun z6 => (if y2 < 0 ∨ 8 ≤ y2.toNatClampNeg then none else bl ((I (rO O (rO O b0 0) 4) y2.toNatClampNeg) : Int32) fun z9 => (f10_timesHeard I O (rO O (rO O b0 0) 0) z6 z9).bind fun r12 => (f1_learns n I O (rO O b0 6) (some b1) (rO O (rO O b0 0) 0) z6 z9 r12).bind fun r14 => (if y2 < 0 ∨ 8 ≤ y2.toNatClampNeg then none else (if r14.1 = (r14.2 (rO O (rO O b0 0) 5) y2.toNatClampNeg) then f11_agrees_c2 n O m r14.2 b0 b1 (y2 + 1) else some ((0 : Int32), r14.2)))))))
set_option maxHeartbeats 4000000 in
set_option maxRecDepth 20000 in
theorem o11_agrees_c2 {g : pG} {Qx : Option Value → pW → Prop} {Z : pZ} {L : (Nat → Nat → Int64)} {O : (Nat → Nat → Option Nat)} {n : Nat} {res : Int32 × (Nat → Nat → Int32)} (d : Nat) (hW : WT Z O) (hQ : (res.1 = 0 ∨ res.1 = 1) → Qx (some (.int res.1)) (Z, res.2, L, O)) : ∀ (m : Nat) (I : (Nat → Nat → Int32)) (b0 : Nat) (b1 : Nat) (y2 : Int32), (Z[b0]? = some (11, 11)) → (Z[b1]? = some (7, 7)) → f11_agrees_c2 n O m I b0 b1 y2 = some res → Ok g (d + 6, RX11, cX11_agrees, 6, false, 0, 0, Z.length, pSl Z) Qx 2 [(0, .ref b0), (1, .ref b1), (2, .int y2)] [] (Z, I, L, O) := by
  intro m
  induction m with
  | zero => intro I b0 b1 y2 hZ_b0 hZ_b1 h; rw [f11_agrees_c2] at h; cases h
  | succ m ih =>
    intro I b0 b1 y2 hZ_b0 hZ_b1 h
    rw [f11_agrees_c2] at h
    refine ok_iload_n dX11_agrees_2 2 rfl ?_
    refine ok_aload_n dX11_agrees_3 0 rfl ?_
    have hT1 : Z[(rO O b0 0)]? = some (9, 10) := (wt_f (ci := 11) (k := 0) hW hZ_b0 rfl).2
    refine ok_getR (ci := 11) (k := 0) dX11_agrees_4 flRX11_10 rfl hW hZ_b0 (by decide) ?_
    refine ok_getI (ci := 9) (k := 7) dX11_agrees_7 flRX11_355 rfl hT1 (by decide) ?_
    refine ok_icmp_ge (t := 95) dX11_agrees_10 (by decide) (fun hc2 => ?_) (fun hc2 => ?_)
    · have h := (if_pos hc2).symm.trans h
      refine ok_iconst (v := 1) dX11_agrees_95 (by decide) ?_
      cases h
      exact ok_iret dX11_agrees_96 (hQ (Or.inr rfl))
    · have h := (if_neg hc2).symm.trans h
      refine ok_iload_n dX11_agrees_13 2 rfl ?_
      refine ok_bipush (v := 8) dX11_agrees_14 (by decide) ?_
      refine ok_icmp_ge (t := 95) dX11_agrees_16 (by decide) (fun hc3 => ?_) (fun hc3 => ?_)
      · have h := (if_pos hc3).symm.trans h
        refine ok_iconst (v := 1) dX11_agrees_95 (by decide) ?_
        cases h
        exact ok_iret dX11_agrees_96 (hQ (Or.inr rfl))
      · have h := (if_neg hc3).symm.trans h
        refine ok_aload_n dX11_agrees_19 0 rfl ?_
        refine ok_getR (ci := 11) (k := 0) dX11_agrees_20 flRX11_10 rfl hW hZ_b0 (by decide) ?_
        have hT4 : Z[(rO O (rO O b0 0) 3)]? = some (13, 8) := (wt_f (ci := 9) (k := 3) hW hT1 rfl).2
        refine ok_getR (ci := 9) (k := 3) dX11_agrees_23 flRX11_358 rfl hW hT1 (by decide) ?_
        refine ok_iload_n dX11_agrees_26 2 rfl ?_
        obtain ⟨hg5, h⟩ := gd h
        refine ok_iald2 (N := y2.toNatClampNeg) dX11_agrees_27 hT4 hg5 rfl ?_
        obtain ⟨z6, ez6, h⟩ := blE h
        refine ok_nm ez6 ?_
        refine ok_istore_n (l' := [(3, .int z6), (0, .ref b0), (1, .ref b1), (2, .int y2)]) dX11_agrees_28 rfl (Nat.le_of_ble_eq_true rfl) rfl ?_
        refine ok_aload_n dX11_agrees_29 1 rfl ?_
        refine ok_getR (ci := 11) (k := 0) dX11_agrees_30 flRX11_10 rfl hW hZ_b0 (by decide) ?_
        have hT7 : Z[(rO O (rO O b0 0) 4)]? = some (13, 8) := (wt_f (ci := 9) (k := 4) hW hT1 rfl).2
        refine ok_getR (ci := 9) (k := 4) dX11_agrees_33 flRX11_361 rfl hW hT1 (by decide) ?_
        refine ok_iload_n dX11_agrees_36 3 rfl ?_
        obtain ⟨hg8, h⟩ := gd h
        refine ok_iald2 (N := y2.toNatClampNeg) dX11_agrees_37 hT7 hg8 rfl ?_
        obtain ⟨z9, ez9, h⟩ := blE h
        refine ok_nm ez9 ?_
        refine ok_istore (l' := [(4, .int z9), (3, .int z6), (0, .ref b0), (1, .ref b1), (2, .int y2)]) dX11_agrees_38 (Nat.le_of_ble_eq_true rfl) rfl ?_
        refine ok_aload_n dX11_agrees_40 2 rfl ?_
        have hT10 : Z[(rO O b0 6)]? = some (1, 3) := (wt_f (ci := 11) (k := 6) hW hZ_b0 rfl).2
        refine ok_getR (ci := 11) (k := 6) dX11_agrees_41 flRX11_42 rfl hW hZ_b0 (by decide) ?_
        refine ok_aload_n dX11_agrees_44 3 rfl ?_
        refine ok_aload_n dX11_agrees_45 2 rfl ?_
        refine ok_getR (ci := 11) (k := 0) dX11_agrees_46 flRX11_10 rfl hW hZ_b0 (by decide) ?_
        have hT11 : Z[(rO O (rO O b0 0) 0)]? = some (10, 5) := (wt_f (ci := 9) (k := 0) hW hT1 rfl).2
        refine ok_getR (ci := 9) (k := 0) dX11_agrees_49 flRX11_79 rfl hW hT1 (by decide) ?_
        refine ok_iload_n dX11_agrees_52 1 rfl ?_
        refine ok_iload dX11_agrees_53 0 rfl ?_
        refine ok_aload_n dX11_agrees_55 2 rfl ?_
        refine ok_getR (ci := 11) (k := 0) dX11_agrees_56 flRX11_10 rfl hW hZ_b0 (by decide) ?_
        refine ok_getR (ci := 9) (k := 0) dX11_agrees_59 flRX11_79 rfl hW hT1 (by decide) ?_
        refine ok_iload_n dX11_agrees_62 1 rfl ?_
        refine ok_iload dX11_agrees_63 0 rfl ?_
        obtain ⟨r12, hr13, h⟩ := bd h
        refine ok_callV (d := ((d + 2) + 3)) (mt := m10_timesHeard) (mc := 0) (ms := 0) (As := [.int z6, .int z9]) (r := [.int z9, .int z6, .ref (rO O (rO O b0 0) 0), .ref b1, .ref (rO O b0 6)]) dX11_agrees_65 mo10_timesHeard mv10_timesHeard lkRX11_250 rfl hT11 (q := (RX10, TX10, 5)) rfl rfl rfl (Nat.le_of_ble_eq_true rfl) (by show _ + 1 ≤ d + _; omega) (Nat.le_refl _) (Nat.le_refl _) (pRt_mono ?_)
        refine k10_timesHeard (d + 2) hW hT11 hr13 ?_
        intro _
        show Ok g _ Qx 68 [(4, .int z9), (3, .int z6), (0, .ref b0), (1, .ref b1), (2, .int y2)] [.int r12, .int z9, .int z6, .ref (rO O (rO O b0 0) 0), .ref b1, .ref (rO O b0 6)] (Z, I, L, O)
        obtain ⟨r14, hr15, h⟩ := bd h
        refine ok_callV (d := ((d + 0) + 5)) (mt := m1_learns) (mc := 0) (ms := 0) (As := [.ref b1, .ref (rO O (rO O b0 0) 0), .int z6, .int z9, .int r12]) (r := []) dX11_agrees_68 mo1_learns mv1_learns lkRX11_253 rfl hT10 (q := (RX1, TX1, 3)) rfl rfl rfl (Nat.le_of_ble_eq_true rfl) (by show _ + 1 ≤ d + _; omega) (Nat.le_refl _) (Nat.le_refl _) (pRt_mono ?_)
        refine k1_learns (d + 0) hW hT10 (fun b hb => by cases hb; exact hZ_b1) hT11 hr15 ?_
        intro _
        show Ok g _ Qx 71 [(4, .int z9), (3, .int z6), (0, .ref b0), (1, .ref b1), (2, .int y2)] [.int r14.1] (Z, r14.2, L, O)
        refine ok_istore (l' := [(5, .int r14.1), (4, .int z9), (3, .int z6), (0, .ref b0), (1, .ref b1), (2, .int y2)]) dX11_agrees_71 (Nat.le_of_ble_eq_true rfl) rfl ?_
        refine ok_iload dX11_agrees_73 0 rfl ?_
        refine ok_aload_n dX11_agrees_75 3 rfl ?_
        refine ok_getR (ci := 11) (k := 0) dX11_agrees_76 flRX11_10 rfl hW hZ_b0 (by decide) ?_
        have hT16 : Z[(rO O (rO O b0 0) 5)]? = some (13, 8) := (wt_f (ci := 9) (k := 5) hW hT1 rfl).2
        refine ok_getR (ci := 9) (k := 5) dX11_agrees_79 flRX11_364 rfl hW hT1 (by decide) ?_
        refine ok_iload_n dX11_agrees_82 5 rfl ?_
        obtain ⟨hg17, h⟩ := gd h
        refine ok_iald2 (N := y2.toNatClampNeg) dX11_agrees_83 hT16 hg17 rfl ?_
        refine ok_icmp_eq (t := 89) dX11_agrees_84 (by decide) (fun hc18 => ?_) (fun hc18 => ?_)
        · have h := (if_pos hc18).symm.trans h
          refine ok_iinc (u := (y2 + 1)) (l' := [(2, .int (y2 + 1)), (5, .int r14.1), (4, .int z9), (3, .int z6), (0, .ref b0), (1, .ref b1)]) dX11_agrees_89 5 rfl rfl (Nat.le_of_ble_eq_true rfl) rfl ?_
          refine ok_goto (t := 2) dX11_agrees_92 (by decide) ?_
          refine ok_sub [4, 5, 0] rfl ?_
          exact ih r14.2 b0 b1 (y2 + 1) hZ_b0 hZ_b1 h
        · have h := (if_neg hc18).symm.trans h
          refine ok_iconst (v := 0) dX11_agrees_87 (by decide) ?_
          cases h
          exact ok_iret dX11_agrees_88 (hQ (Or.inl rfl))
def f11_agrees (n : Nat) (I : (Nat → Nat → Int32)) (O : (Nat → Nat → Option Nat)) (a0 : Nat) (a1 : Nat) : Option (Int32 × (Nat → Nat → Int32)) := f11_agrees_c2 n O n I a0 a1 (0 : Int32)
set_option maxHeartbeats 4000000 in
set_option maxRecDepth 20000 in
theorem o11_agrees {g : pG} {Qx : Option Value → pW → Prop} {Z : pZ} {I : (Nat → Nat → Int32)} {L : (Nat → Nat → Int64)} {O : (Nat → Nat → Option Nat)} {n : Nat} {a0 : Nat} {a1 : Nat} {res : Int32 × (Nat → Nat → Int32)} (d : Nat) (hW : WT Z O) (hZ0 : Z[a0]? = some (11, 11)) (hZ1 : Z[a1]? = some (7, 7)) (h : f11_agrees n I O a0 a1 = some res) (hQ : (res.1 = 0 ∨ res.1 = 1) → Qx (some (.int res.1)) (Z, res.2, L, O)) : Ok g (d + 6, RX11, cX11_agrees, 6, false, 0, 0, Z.length, pSl Z) Qx 0 [(0, .ref a0), (1, .ref a1)] [] (Z, I, L, O) := by
  unfold f11_agrees at h
  refine ok_iconst (v := 0) dX11_agrees_0 (by decide) ?_
  refine ok_istore_n (l' := [(2, .int 0), (0, .ref a0), (1, .ref a1)]) dX11_agrees_1 rfl (Nat.le_of_ble_eq_true rfl) rfl ?_
  refine ok_sub [1, 2, 0] rfl ?_
  exact o11_agrees_c2 d hW hQ  n I a0 a1 (0 : Int32) hZ0 hZ1 h
theorem k11_agrees {g : pG} {Q : Option Value → pW → Prop} {Z : pZ} {I : (Nat → Nat → Int32)} {L : (Nat → Nat → Int64)} {O : (Nat → Nat → Option Nat)} {n : Nat} {a0 : Nat} {a1 : Nat} {res : Int32 × (Nat → Nat → Int32)} (d : Nat) (hW : WT Z O) (hZ0 : Z[a0]? = some (11, 11)) (hZ1 : Z[a1]? = some (7, 7)) (h : f11_agrees n I O a0 a1 = some res) (hQ : Q (some (.int res.1)) (Z, res.2, L, O)) : CT g (d + 6) m11_agrees 0 0 [.ref a0, .ref a1] (Z, I, L, O) Q :=
  ct_of_ok (mt := m11_agrees) (ini := false) mo11_agrees.2.2.2.2 (fun h => by cases h) (Nat.le_of_ble_eq_true rfl) (o11_agrees d hW hZ0 hZ1 h (fun hb => ⟨hb, hQ, rfl, rfl⟩))
theorem dX11_whose_0 : decode cX11_whose 0 = .ok (.iconst 0, 1) := by decide +kernel
theorem dX11_whose_1 : decode cX11_whose 1 = .ok (.istore_n 1, 1) := by decide +kernel
theorem dX11_whose_2 : decode cX11_whose 2 = .ok (.iconst 0, 1) := by decide +kernel
theorem dX11_whose_3 : decode cX11_whose 3 = .ok (.istore_n 2, 1) := by decide +kernel
theorem dX11_whose_4 : decode cX11_whose 4 = .ok (.iload_n 2, 1) := by decide +kernel
theorem dX11_whose_5 : decode cX11_whose 5 = .ok (.aload_n 0, 1) := by decide +kernel
theorem dX11_whose_6 : decode cX11_whose 6 = .ok (.getfield 10, 3) := by decide +kernel
theorem dX11_whose_9 : decode cX11_whose 9 = .ok (.getfield 125, 3) := by decide +kernel
theorem dX11_whose_12 : decode cX11_whose 12 = .ok (.if_icmp .ge 33, 3) := by decide +kernel
theorem dX11_whose_15 : decode cX11_whose 15 = .ok (.aload_n 0, 1) := by decide +kernel
theorem dX11_whose_16 : decode cX11_whose 16 = .ok (.iload_n 2, 1) := by decide +kernel
theorem dX11_whose_17 : decode cX11_whose 17 = .ok (.invokevirtual 145, 3) := by decide +kernel
theorem dX11_whose_20 : decode cX11_whose 20 = .ok (.astore_n 3, 1) := by decide +kernel
theorem dX11_whose_21 : decode cX11_whose 21 = .ok (.aload_n 3, 1) := by decide +kernel
theorem dX11_whose_22 : decode cX11_whose 22 = .ok (.ifnull 17, 3) := by decide +kernel
theorem dX11_whose_25 : decode cX11_whose 25 = .ok (.aload_n 0, 1) := by decide +kernel
theorem dX11_whose_26 : decode cX11_whose 26 = .ok (.aload_n 3, 1) := by decide +kernel
theorem dX11_whose_27 : decode cX11_whose 27 = .ok (.invokevirtual 367, 3) := by decide +kernel
theorem dX11_whose_30 : decode cX11_whose 30 = .ok (.ifCond .eq 9, 3) := by decide +kernel
theorem dX11_whose_33 : decode cX11_whose 33 = .ok (.iload_n 1, 1) := by decide +kernel
theorem dX11_whose_34 : decode cX11_whose 34 = .ok (.iconst 1, 1) := by decide +kernel
theorem dX11_whose_35 : decode cX11_whose 35 = .ok (.iload_n 2, 1) := by decide +kernel
theorem dX11_whose_36 : decode cX11_whose 36 = .ok (.ishl, 1) := by decide +kernel
theorem dX11_whose_37 : decode cX11_whose 37 = .ok (.ior, 1) := by decide +kernel
theorem dX11_whose_38 : decode cX11_whose 38 = .ok (.istore_n 1, 1) := by decide +kernel
theorem dX11_whose_39 : decode cX11_whose 39 = .ok (.iinc 2 1, 3) := by decide +kernel
theorem dX11_whose_42 : decode cX11_whose 42 = .ok (.goto (-38), 3) := by decide +kernel
theorem dX11_whose_45 : decode cX11_whose 45 = .ok (.iload_n 1, 1) := by decide +kernel
theorem dX11_whose_46 : decode cX11_whose 46 = .ok (.ireturn, 1) := by decide +kernel
def m11_whose : pMT := (yX11_whose, cX11_whose, 4, some .int)
theorem mo11_whose : mOK m11_whose 0 := ⟨tb_i 1239 (by decide +kernel), wi_RX11, ⟨wn_RX11.1, wn_RX11.2, by decide +kernel⟩, by decide, plainFor_of_name wp_RX11⟩
theorem mv11_whose : mV m11_whose := ⟨tb_i 1237 (by decide +kernel), tb_i 1238 (by decide +kernel)⟩
def f11_whose_c4 (n : Nat) (O : (Nat → Nat → Option Nat)) : Nat → (Nat → Nat → Int32) → Nat → Int32 → Int32 → Option (Int32 × (Nat → Nat → Int32))
  | 0, _, _, _, _ => none
  | m + 1, I, b0, y1, y2 => (if (I (rO O b0 0) 8) ≤ y2 then some (y1, I) else (f11_textOf I O b0 y2).bind fun r3 => (match r3 with | none => f11_whose_c4 n O m I b0 y1 (y2 + 1) | some b5 => (f11_agrees n I O b0 b5).bind fun r7 => (if r7.1 = 0 then f11_whose_c4 n O m r7.2 b0 y1 (y2 + 1) else bl ((y1 ||| ((1 : Int32) <<< (y2 &&& 31))) : Int32) fun z10 => f11_whose_c4 n O m r7.2 b0 z10 (y2 + 1))))
set_option maxHeartbeats 4000000 in
set_option maxRecDepth 20000 in
theorem o11_whose_c4 {g : pG} {Qx : Option Value → pW → Prop} {Z : pZ} {L : (Nat → Nat → Int64)} {O : (Nat → Nat → Option Nat)} {n : Nat} {res : Int32 × (Nat → Nat → Int32)} (d : Nat) (hW : WT Z O) (hQ : Qx (some (.int res.1)) (Z, res.2, L, O)) : ∀ (m : Nat) (I : (Nat → Nat → Int32)) (b0 : Nat) (y1 : Int32) (y2 : Int32), (Z[b0]? = some (11, 11)) → f11_whose_c4 n O m I b0 y1 y2 = some res → Ok g (d + 7, RX11, cX11_whose, 4, false, 0, 0, Z.length, pSl Z) Qx 4 [(0, .ref b0), (1, .int y1), (2, .int y2)] [] (Z, I, L, O) := by
  intro m
  induction m with
  | zero => intro I b0 y1 y2 hZ_b0 h; rw [f11_whose_c4] at h; cases h
  | succ m ih =>
    intro I b0 y1 y2 hZ_b0 h
    rw [f11_whose_c4] at h
    refine ok_iload_n dX11_whose_4 2 rfl ?_
    refine ok_aload_n dX11_whose_5 0 rfl ?_
    have hT1 : Z[(rO O b0 0)]? = some (9, 10) := (wt_f (ci := 11) (k := 0) hW hZ_b0 rfl).2
    refine ok_getR (ci := 11) (k := 0) dX11_whose_6 flRX11_10 rfl hW hZ_b0 (by decide) ?_
    refine ok_getI (ci := 9) (k := 8) dX11_whose_9 flRX11_125 rfl hT1 (by decide) ?_
    refine ok_icmp_ge (t := 45) dX11_whose_12 (by decide) (fun hc2 => ?_) (fun hc2 => ?_)
    · have h := (if_pos hc2).symm.trans h
      refine ok_iload_n dX11_whose_45 1 rfl ?_
      cases h
      exact ok_iret dX11_whose_46 hQ
    · have h := (if_neg hc2).symm.trans h
      refine ok_aload_n dX11_whose_15 0 rfl ?_
      refine ok_iload_n dX11_whose_16 2 rfl ?_
      obtain ⟨r3, hr4, h⟩ := bd h
      have hSr3 := t11_textOf hW hZ_b0 hr4
      refine ok_callV (d := ((d + 4) + 2)) (mt := m11_textOf) (mc := 0) (ms := 0) (As := [.int y2]) (r := []) dX11_whose_17 mo11_textOf mv11_textOf lkRX11_145 rfl hZ_b0 (q := (RX11, TX11, 11)) rfl rfl rfl (Nat.le_of_ble_eq_true rfl) (by show _ + 1 ≤ d + _; omega) (Nat.le_refl _) (Nat.le_refl _) (pRt_mono ?_)
      refine k11_textOf (d + 4) hW hZ_b0 hr4 ?_
      intro _
      show Ok g _ Qx 20 [(0, .ref b0), (1, .int y1), (2, .int y2)] [va_rf r3] (Z, I, L, O)
      refine ok_astoreQ_n (l' := [(3, va_rf r3), (0, .ref b0), (1, .int y1), (2, .int y2)]) dX11_whose_20 rfl (Nat.le_of_ble_eq_true rfl) rfl ?_
      refine ok_aloadQ_n dX11_whose_21 0 rfl ?_
      refine ok_ifnullQ (t := 39) dX11_whose_22 (by decide) ?_ ?_
      · intro hs6
        subst hs6
        show Ok g _ Qx 39 [(3, .null), (0, .ref b0), (1, .int y1), (2, .int y2)] [] (Z, I, L, O)
        refine ok_iinc (u := (y2 + 1)) (l' := [(2, .int (y2 + 1)), (3, .null), (0, .ref b0), (1, .int y1)]) dX11_whose_39 3 rfl rfl (Nat.le_of_ble_eq_true rfl) rfl ?_
        refine ok_goto (t := 4) dX11_whose_42 (by decide) ?_
        refine ok_sub [2, 3, 0] rfl ?_
        exact ih I b0 y1 (y2 + 1) hZ_b0 h
      · intro b5 hs6
        subst hs6
        show Ok g _ Qx 25 [(3, .ref b5), (0, .ref b0), (1, .int y1), (2, .int y2)] [] (Z, I, L, O)
        refine ok_aload_n dX11_whose_25 1 rfl ?_
        refine ok_aload_n dX11_whose_26 0 rfl ?_
        obtain ⟨r7, hr8, h⟩ := bd h
        refine ok_callV (d := ((d + 0) + 6)) (mt := m11_agrees) (mc := 0) (ms := 0) (As := [.ref b5]) (r := []) dX11_whose_27 mo11_agrees mv11_agrees lkRX11_367 rfl hZ_b0 (q := (RX11, TX11, 11)) rfl rfl rfl (Nat.le_of_ble_eq_true rfl) (by show _ + 1 ≤ d + _; omega) (Nat.le_refl _) (Nat.le_refl _) (pRt_mono ?_)
        refine k11_agrees (d + 0) hW hZ_b0 (hSr3 b5 rfl) hr8 ?_
        intro hbr7
        show Ok g _ Qx 30 [(3, .ref b5), (0, .ref b0), (1, .int y1), (2, .int y2)] [.int r7.1] (Z, r7.2, L, O)
        refine ok_if_eq (t := 39) dX11_whose_30 (by decide) (fun hc9 => ?_) (fun hc9 => ?_)
        · have h := (if_pos hc9).symm.trans h
          refine ok_iinc (u := (y2 + 1)) (l' := [(2, .int (y2 + 1)), (3, .ref b5), (0, .ref b0), (1, .int y1)]) dX11_whose_39 3 rfl rfl (Nat.le_of_ble_eq_true rfl) rfl ?_
          refine ok_goto (t := 4) dX11_whose_42 (by decide) ?_
          refine ok_sub [2, 3, 0] rfl ?_
          exact ih r7.2 b0 y1 (y2 + 1) hZ_b0 h
        · have h := (if_neg hc9).symm.trans h
          refine ok_iload_n dX11_whose_33 2 rfl ?_
          refine ok_iconst (v := 1) dX11_whose_34 (by decide) ?_
          refine ok_iload_n dX11_whose_35 3 rfl ?_
          refine ok_ishl dX11_whose_36 ?_
          refine ok_ior dX11_whose_37 ?_
          obtain ⟨z10, ez10, h⟩ := blE h
          refine ok_nm ez10 ?_
          refine ok_istore_n (l' := [(1, .int z10), (3, .ref b5), (0, .ref b0), (2, .int y2)]) dX11_whose_38 rfl (Nat.le_of_ble_eq_true rfl) rfl ?_
          refine ok_iinc (u := (y2 + 1)) (l' := [(2, .int (y2 + 1)), (1, .int z10), (3, .ref b5), (0, .ref b0)]) dX11_whose_39 3 rfl rfl (Nat.le_of_ble_eq_true rfl) rfl ?_
          refine ok_goto (t := 4) dX11_whose_42 (by decide) ?_
          refine ok_sub [3, 1, 0] rfl ?_
          exact ih r7.2 b0 z10 (y2 + 1) hZ_b0 h
def f11_whose (n : Nat) (I : (Nat → Nat → Int32)) (O : (Nat → Nat → Option Nat)) (a0 : Nat) : Option (Int32 × (Nat → Nat → Int32)) := f11_whose_c4 n O n I a0 (0 : Int32) (0 : Int32)
set_option maxHeartbeats 4000000 in
set_option maxRecDepth 20000 in
theorem o11_whose {g : pG} {Qx : Option Value → pW → Prop} {Z : pZ} {I : (Nat → Nat → Int32)} {L : (Nat → Nat → Int64)} {O : (Nat → Nat → Option Nat)} {n : Nat} {a0 : Nat} {res : Int32 × (Nat → Nat → Int32)} (d : Nat) (hW : WT Z O) (hZ0 : Z[a0]? = some (11, 11)) (h : f11_whose n I O a0 = some res) (hQ : Qx (some (.int res.1)) (Z, res.2, L, O)) : Ok g (d + 7, RX11, cX11_whose, 4, false, 0, 0, Z.length, pSl Z) Qx 0 [(0, .ref a0)] [] (Z, I, L, O) := by
  unfold f11_whose at h
  refine ok_iconst (v := 0) dX11_whose_0 (by decide) ?_
  refine ok_istore_n (l' := [(1, .int 0), (0, .ref a0)]) dX11_whose_1 rfl (Nat.le_of_ble_eq_true rfl) rfl ?_
  refine ok_iconst (v := 0) dX11_whose_2 (by decide) ?_
  refine ok_istore_n (l' := [(2, .int 0), (1, .int 0), (0, .ref a0)]) dX11_whose_3 rfl (Nat.le_of_ble_eq_true rfl) rfl ?_
  refine ok_sub [2, 1, 0] rfl ?_
  exact o11_whose_c4 d hW hQ  n I a0 (0 : Int32) (0 : Int32) hZ0 h
theorem k11_whose {g : pG} {Q : Option Value → pW → Prop} {Z : pZ} {I : (Nat → Nat → Int32)} {L : (Nat → Nat → Int64)} {O : (Nat → Nat → Option Nat)} {n : Nat} {a0 : Nat} {res : Int32 × (Nat → Nat → Int32)} (d : Nat) (hW : WT Z O) (hZ0 : Z[a0]? = some (11, 11)) (h : f11_whose n I O a0 = some res) (hQ : Q (some (.int res.1)) (Z, res.2, L, O)) : CT g (d + 7) m11_whose 0 0 [.ref a0] (Z, I, L, O) Q :=
  ct_of_ok (mt := m11_whose) (ini := false) mo11_whose.2.2.2.2 (fun h => by cases h) (Nat.le_of_ble_eq_true rfl) (o11_whose d hW hZ0 h ⟨trivial, hQ, rfl, rfl⟩)
theorem dX11_best_0 : decode cX11_best 0 = .ok (.iconst (-1), 1) := by decide +kernel
theorem dX11_best_1 : decode cX11_best 1 = .ok (.istore_n 1, 1) := by decide +kernel
theorem dX11_best_2 : decode cX11_best 2 = .ok (.iconst 0, 1) := by decide +kernel
theorem dX11_best_3 : decode cX11_best 3 = .ok (.istore_n 2, 1) := by decide +kernel
theorem dX11_best_4 : decode cX11_best 4 = .ok (.iconst 0, 1) := by decide +kernel
theorem dX11_best_5 : decode cX11_best 5 = .ok (.istore_n 3, 1) := by decide +kernel
theorem dX11_best_6 : decode cX11_best 6 = .ok (.iload_n 3, 1) := by decide +kernel
theorem dX11_best_7 : decode cX11_best 7 = .ok (.aload_n 0, 1) := by decide +kernel
theorem dX11_best_8 : decode cX11_best 8 = .ok (.getfield 10, 3) := by decide +kernel
theorem dX11_best_11 : decode cX11_best 11 = .ok (.getfield 79, 3) := by decide +kernel
theorem dX11_best_14 : decode cX11_best 14 = .ok (.getfield 259, 3) := by decide +kernel
theorem dX11_best_17 : decode cX11_best 17 = .ok (.if_icmp .ge 44, 3) := by decide +kernel
theorem dX11_best_20 : decode cX11_best 20 = .ok (.aload_n 0, 1) := by decide +kernel
theorem dX11_best_21 : decode cX11_best 21 = .ok (.getfield 65, 3) := by decide +kernel
theorem dX11_best_24 : decode cX11_best 24 = .ok (.aload_n 0, 1) := by decide +kernel
theorem dX11_best_25 : decode cX11_best 25 = .ok (.getfield 10, 3) := by decide +kernel
theorem dX11_best_28 : decode cX11_best 28 = .ok (.getfield 79, 3) := by decide +kernel
theorem dX11_best_31 : decode cX11_best 31 = .ok (.aload_n 0, 1) := by decide +kernel
theorem dX11_best_32 : decode cX11_best 32 = .ok (.invokevirtual 162, 3) := by decide +kernel
theorem dX11_best_35 : decode cX11_best 35 = .ok (.iload_n 3, 1) := by decide +kernel
theorem dX11_best_36 : decode cX11_best 36 = .ok (.invokevirtual 216, 3) := by decide +kernel
theorem dX11_best_39 : decode cX11_best 39 = .ok (.invokestatic 316, 3) := by decide +kernel
theorem dX11_best_42 : decode cX11_best 42 = .ok (.istore 4, 2) := by decide +kernel
theorem dX11_best_44 : decode cX11_best 44 = .ok (.iload 4, 2) := by decide +kernel
theorem dX11_best_46 : decode cX11_best 46 = .ok (.iload_n 2, 1) := by decide +kernel
theorem dX11_best_47 : decode cX11_best 47 = .ok (.if_icmp .le 8, 3) := by decide +kernel
theorem dX11_best_50 : decode cX11_best 50 = .ok (.iload 4, 2) := by decide +kernel
theorem dX11_best_52 : decode cX11_best 52 = .ok (.istore_n 2, 1) := by decide +kernel
theorem dX11_best_53 : decode cX11_best 53 = .ok (.iload_n 3, 1) := by decide +kernel
theorem dX11_best_54 : decode cX11_best 54 = .ok (.istore_n 1, 1) := by decide +kernel
theorem dX11_best_55 : decode cX11_best 55 = .ok (.iinc 3 1, 3) := by decide +kernel
theorem dX11_best_58 : decode cX11_best 58 = .ok (.goto (-52), 3) := by decide +kernel
theorem dX11_best_61 : decode cX11_best 61 = .ok (.iload_n 1, 1) := by decide +kernel
theorem dX11_best_62 : decode cX11_best 62 = .ok (.ireturn, 1) := by decide +kernel
def m11_best : pMT := (yX11_best, cX11_best, 5, some .int)
theorem mo11_best : mOK m11_best 0 := ⟨tb_i 1247 (by decide +kernel), wi_RX11, ⟨wn_RX11.1, wn_RX11.2, by decide +kernel⟩, by decide, plainFor_of_name wp_RX11⟩
theorem mv11_best : mV m11_best := ⟨tb_i 1245 (by decide +kernel), tb_i 1246 (by decide +kernel)⟩
def f11_best_c6 (n : Nat) (O : (Nat → Nat → Option Nat)) : Nat → (Nat → Nat → Int32) → Nat → Int32 → Int32 → Int32 → Option (Int32 × (Nat → Nat → Int32))
  | 0, _, _, _, _, _ => none
  | m + 1, I, b0, y1, y2, y3 => (if (I (rO O (rO O b0 0) 0) 4) ≤ y3 then some (y1, I) else (f11_ruling I O b0).bind fun r5 => (f6_learntKeys n I O (rO O b0 9) (rO O (rO O b0 0) 0) r5 y3).bind fun r7 => (fJ6_bitCount_0f7a4 r7.1).bind fun r9 => (if r9 ≤ y2 then f11_best_c6 n O m r7.2 b0 y1 y2 (y3 + 1) else f11_best_c6 n O m r7.2 b0 y3 r9 (y3 + 1)))
set_option maxHeartbeats 4000000 in
set_option maxRecDepth 20000 in
theorem o11_best_c6 {g : pG} {Qx : Option Value → pW → Prop} {Z : pZ} {L : (Nat → Nat → Int64)} {O : (Nat → Nat → Option Nat)} {n : Nat} {res : Int32 × (Nat → Nat → Int32)} (d : Nat) (hW : WT Z O) (hQ : Qx (some (.int res.1)) (Z, res.2, L, O)) : ∀ (m : Nat) (I : (Nat → Nat → Int32)) (b0 : Nat) (y1 : Int32) (y2 : Int32) (y3 : Int32), (Z[b0]? = some (11, 11)) → f11_best_c6 n O m I b0 y1 y2 y3 = some res → Ok g (d + 7, RX11, cX11_best, 5, false, 0, 0, Z.length, pSl Z) Qx 6 [(0, .ref b0), (1, .int y1), (2, .int y2), (3, .int y3)] [] (Z, I, L, O) := by
  intro m
  induction m with
  | zero => intro I b0 y1 y2 y3 hZ_b0 h; rw [f11_best_c6] at h; cases h
  | succ m ih =>
    intro I b0 y1 y2 y3 hZ_b0 h
    rw [f11_best_c6] at h
    refine ok_iload_n dX11_best_6 3 rfl ?_
    refine ok_aload_n dX11_best_7 0 rfl ?_
    have hT1 : Z[(rO O b0 0)]? = some (9, 10) := (wt_f (ci := 11) (k := 0) hW hZ_b0 rfl).2
    refine ok_getR (ci := 11) (k := 0) dX11_best_8 flRX11_10 rfl hW hZ_b0 (by decide) ?_
    have hT2 : Z[(rO O (rO O b0 0) 0)]? = some (10, 5) := (wt_f (ci := 9) (k := 0) hW hT1 rfl).2
    refine ok_getR (ci := 9) (k := 0) dX11_best_11 flRX11_79 rfl hW hT1 (by decide) ?_
    refine ok_getI (ci := 10) (k := 4) dX11_best_14 flRX11_259 rfl hT2 (by decide) ?_
    refine ok_icmp_ge (t := 61) dX11_best_17 (by decide) (fun hc3 => ?_) (fun hc3 => ?_)
    · have h := (if_pos hc3).symm.trans h
      refine ok_iload_n dX11_best_61 1 rfl ?_
      cases h
      exact ok_iret dX11_best_62 hQ
    · have h := (if_neg hc3).symm.trans h
      refine ok_aload_n dX11_best_20 0 rfl ?_
      have hT4 : Z[(rO O b0 9)]? = some (6, 5) := (wt_f (ci := 11) (k := 9) hW hZ_b0 rfl).2
      refine ok_getR (ci := 11) (k := 9) dX11_best_21 flRX11_65 rfl hW hZ_b0 (by decide) ?_
      refine ok_aload_n dX11_best_24 0 rfl ?_
      refine ok_getR (ci := 11) (k := 0) dX11_best_25 flRX11_10 rfl hW hZ_b0 (by decide) ?_
      refine ok_getR (ci := 9) (k := 0) dX11_best_28 flRX11_79 rfl hW hT1 (by decide) ?_
      refine ok_aload_n dX11_best_31 0 rfl ?_
      obtain ⟨r5, hr6, h⟩ := bd h
      have hSr5 := t11_ruling hW hZ_b0 hr6
      refine ok_callV (d := ((d + 3) + 3)) (mt := m11_ruling) (mc := 0) (ms := 0) (As := []) (r := [.ref (rO O (rO O b0 0) 0), .ref (rO O b0 9)]) dX11_best_32 mo11_ruling mv11_ruling lkRX11_162 rfl hZ_b0 (q := (RX11, TX11, 11)) rfl rfl rfl (Nat.le_of_ble_eq_true rfl) (by show _ + 1 ≤ d + _; omega) (Nat.le_refl _) (Nat.le_refl _) (pRt_mono ?_)
      refine k11_ruling (d + 3) hW hZ_b0 hr6 ?_
      intro _
      show Ok g _ Qx 35 [(0, .ref b0), (1, .int y1), (2, .int y2), (3, .int y3)] [va_rf r5, .ref (rO O (rO O b0 0) 0), .ref (rO O b0 9)] (Z, I, L, O)
      refine ok_iload_n dX11_best_35 3 rfl ?_
      obtain ⟨r7, hr8, h⟩ := bd h
      refine ok_callV (d := ((d + 0) + 6)) (mt := m6_learntKeys) (mc := 0) (ms := 0) (As := [.ref (rO O (rO O b0 0) 0), va_rf r5, .int y3]) (r := []) dX11_best_36 mo6_learntKeys mv6_learntKeys lkRX11_216 rfl hT4 (q := (RX6, TX6, 5)) rfl rfl rfl (Nat.le_of_ble_eq_true rfl) (by show _ + 1 ≤ d + _; omega) (Nat.le_refl _) (Nat.le_refl _) (pRt_mono ?_)
      refine k6_learntKeys (d + 0) hW hT4 hT2 hSr5 hr8 ?_
      intro _
      show Ok g _ Qx 39 [(0, .ref b0), (1, .int y1), (2, .int y2), (3, .int y3)] [.int r7.1] (Z, r7.2, L, O)
      obtain ⟨r9, hr10, h⟩ := bd h
      refine ok_callS (d := ((d + 4) + 2)) (mt := mJ6_bitCount_0f7a4) (mc := 0) (ms := 0) (As := [.int r7.1]) (r := []) dX11_best_39 moJ6_bitCount_0f7a4 mvJ6_bitCount_0f7a4 lkRX11_316 rfl rfl (Nat.le_of_ble_eq_true rfl) (by show _ + 1 ≤ d + _; omega) (Nat.le_refl _) (Nat.le_refl _) (pRt_mono ?_)
      refine kJ6_bitCount_0f7a4 (d + 4) hW  hr10 ?_
      intro _
      show Ok g _ Qx 42 [(0, .ref b0), (1, .int y1), (2, .int y2), (3, .int y3)] [.int r9] (Z, r7.2, L, O)
      refine ok_istore (l' := [(4, .int r9), (0, .ref b0), (1, .int y1), (2, .int y2), (3, .int y3)]) dX11_best_42 (Nat.le_of_ble_eq_true rfl) rfl ?_
      refine ok_iload dX11_best_44 0 rfl ?_
      refine ok_iload_n dX11_best_46 3 rfl ?_
      refine ok_icmp_le (t := 55) dX11_best_47 (by decide) (fun hc11 => ?_) (fun hc11 => ?_)
      · have h := (if_pos hc11).symm.trans h
        refine ok_iinc (u := (y3 + 1)) (l' := [(3, .int (y3 + 1)), (4, .int r9), (0, .ref b0), (1, .int y1), (2, .int y2)]) dX11_best_55 4 rfl rfl (Nat.le_of_ble_eq_true rfl) rfl ?_
        refine ok_goto (t := 6) dX11_best_58 (by decide) ?_
        refine ok_sub [2, 3, 4, 0] rfl ?_
        exact ih r7.2 b0 y1 y2 (y3 + 1) hZ_b0 h
      · have h := (if_neg hc11).symm.trans h
        refine ok_iload dX11_best_50 0 rfl ?_
        refine ok_istore_n (l' := [(2, .int r9), (4, .int r9), (0, .ref b0), (1, .int y1), (3, .int y3)]) dX11_best_52 rfl (Nat.le_of_ble_eq_true rfl) rfl ?_
        refine ok_iload_n dX11_best_53 4 rfl ?_
        refine ok_istore_n (l' := [(1, .int y3), (2, .int r9), (4, .int r9), (0, .ref b0), (3, .int y3)]) dX11_best_54 rfl (Nat.le_of_ble_eq_true rfl) rfl ?_
        refine ok_iinc (u := (y3 + 1)) (l' := [(3, .int (y3 + 1)), (1, .int y3), (2, .int r9), (4, .int r9), (0, .ref b0)]) dX11_best_55 4 rfl rfl (Nat.le_of_ble_eq_true rfl) rfl ?_
        refine ok_goto (t := 6) dX11_best_58 (by decide) ?_
        refine ok_sub [4, 1, 2, 0] rfl ?_
        exact ih r7.2 b0 y3 r9 (y3 + 1) hZ_b0 h
def f11_best (n : Nat) (I : (Nat → Nat → Int32)) (O : (Nat → Nat → Option Nat)) (a0 : Nat) : Option (Int32 × (Nat → Nat → Int32)) := f11_best_c6 n O n I a0 (-1 : Int32) (0 : Int32) (0 : Int32)
set_option maxHeartbeats 4000000 in
set_option maxRecDepth 20000 in
theorem o11_best {g : pG} {Qx : Option Value → pW → Prop} {Z : pZ} {I : (Nat → Nat → Int32)} {L : (Nat → Nat → Int64)} {O : (Nat → Nat → Option Nat)} {n : Nat} {a0 : Nat} {res : Int32 × (Nat → Nat → Int32)} (d : Nat) (hW : WT Z O) (hZ0 : Z[a0]? = some (11, 11)) (h : f11_best n I O a0 = some res) (hQ : Qx (some (.int res.1)) (Z, res.2, L, O)) : Ok g (d + 7, RX11, cX11_best, 5, false, 0, 0, Z.length, pSl Z) Qx 0 [(0, .ref a0)] [] (Z, I, L, O) := by
  unfold f11_best at h
  refine ok_iconst (v := (-1)) dX11_best_0 (by decide) ?_
  refine ok_istore_n (l' := [(1, .int (-1)), (0, .ref a0)]) dX11_best_1 rfl (Nat.le_of_ble_eq_true rfl) rfl ?_
  refine ok_iconst (v := 0) dX11_best_2 (by decide) ?_
  refine ok_istore_n (l' := [(2, .int 0), (1, .int (-1)), (0, .ref a0)]) dX11_best_3 rfl (Nat.le_of_ble_eq_true rfl) rfl ?_
  refine ok_iconst (v := 0) dX11_best_4 (by decide) ?_
  refine ok_istore_n (l' := [(3, .int 0), (2, .int 0), (1, .int (-1)), (0, .ref a0)]) dX11_best_5 rfl (Nat.le_of_ble_eq_true rfl) rfl ?_
  refine ok_sub [3, 2, 1, 0] rfl ?_
  exact o11_best_c6 d hW hQ  n I a0 (-1 : Int32) (0 : Int32) (0 : Int32) hZ0 h
theorem k11_best {g : pG} {Q : Option Value → pW → Prop} {Z : pZ} {I : (Nat → Nat → Int32)} {L : (Nat → Nat → Int64)} {O : (Nat → Nat → Option Nat)} {n : Nat} {a0 : Nat} {res : Int32 × (Nat → Nat → Int32)} (d : Nat) (hW : WT Z O) (hZ0 : Z[a0]? = some (11, 11)) (h : f11_best n I O a0 = some res) (hQ : Q (some (.int res.1)) (Z, res.2, L, O)) : CT g (d + 7) m11_best 0 0 [.ref a0] (Z, I, L, O) Q :=
  ct_of_ok (mt := m11_best) (ini := false) mo11_best.2.2.2.2 (fun h => by cases h) (Nat.le_of_ble_eq_true rfl) (o11_best d hW hZ0 h ⟨trivial, hQ, rfl, rfl⟩)
theorem dX11_loved_0 : decode cX11_loved 0 = .ok (.iconst (-1), 1) := by decide +kernel
theorem dX11_loved_1 : decode cX11_loved 1 = .ok (.istore_n 1, 1) := by decide +kernel
theorem dX11_loved_2 : decode cX11_loved 2 = .ok (.iconst 0, 1) := by decide +kernel
theorem dX11_loved_3 : decode cX11_loved 3 = .ok (.istore_n 2, 1) := by decide +kernel
theorem dX11_loved_4 : decode cX11_loved 4 = .ok (.iconst 0, 1) := by decide +kernel
theorem dX11_loved_5 : decode cX11_loved 5 = .ok (.istore_n 3, 1) := by decide +kernel
theorem dX11_loved_6 : decode cX11_loved 6 = .ok (.iload_n 3, 1) := by decide +kernel
theorem dX11_loved_7 : decode cX11_loved 7 = .ok (.aload_n 0, 1) := by decide +kernel
theorem dX11_loved_8 : decode cX11_loved 8 = .ok (.getfield 10, 3) := by decide +kernel
theorem dX11_loved_11 : decode cX11_loved 11 = .ok (.getfield 79, 3) := by decide +kernel
theorem dX11_loved_14 : decode cX11_loved 14 = .ok (.getfield 256, 3) := by decide +kernel
theorem dX11_loved_17 : decode cX11_loved 17 = .ok (.if_icmp .ge 33, 3) := by decide +kernel
theorem dX11_loved_20 : decode cX11_loved 20 = .ok (.aload_n 0, 1) := by decide +kernel
theorem dX11_loved_21 : decode cX11_loved 21 = .ok (.getfield 10, 3) := by decide +kernel
theorem dX11_loved_24 : decode cX11_loved 24 = .ok (.getfield 79, 3) := by decide +kernel
theorem dX11_loved_27 : decode cX11_loved 27 = .ok (.iload_n 3, 1) := by decide +kernel
theorem dX11_loved_28 : decode cX11_loved 28 = .ok (.invokevirtual 370, 3) := by decide +kernel
theorem dX11_loved_31 : decode cX11_loved 31 = .ok (.istore 4, 2) := by decide +kernel
theorem dX11_loved_33 : decode cX11_loved 33 = .ok (.iload 4, 2) := by decide +kernel
theorem dX11_loved_35 : decode cX11_loved 35 = .ok (.iload_n 2, 1) := by decide +kernel
theorem dX11_loved_36 : decode cX11_loved 36 = .ok (.if_icmp .le 8, 3) := by decide +kernel
theorem dX11_loved_39 : decode cX11_loved 39 = .ok (.iload 4, 2) := by decide +kernel
theorem dX11_loved_41 : decode cX11_loved 41 = .ok (.istore_n 2, 1) := by decide +kernel
theorem dX11_loved_42 : decode cX11_loved 42 = .ok (.iload_n 3, 1) := by decide +kernel
theorem dX11_loved_43 : decode cX11_loved 43 = .ok (.istore_n 1, 1) := by decide +kernel
theorem dX11_loved_44 : decode cX11_loved 44 = .ok (.iinc 3 1, 3) := by decide +kernel
theorem dX11_loved_47 : decode cX11_loved 47 = .ok (.goto (-41), 3) := by decide +kernel
theorem dX11_loved_50 : decode cX11_loved 50 = .ok (.iload_n 1, 1) := by decide +kernel
theorem dX11_loved_51 : decode cX11_loved 51 = .ok (.ireturn, 1) := by decide +kernel
def m11_loved : pMT := (yX11_loved, cX11_loved, 5, some .int)
theorem mo11_loved : mOK m11_loved 0 := ⟨tb_i 1251 (by decide +kernel), wi_RX11, ⟨wn_RX11.1, wn_RX11.2, by decide +kernel⟩, by decide, plainFor_of_name wp_RX11⟩
theorem mv11_loved : mV m11_loved := ⟨tb_i 1249 (by decide +kernel), tb_i 1250 (by decide +kernel)⟩
def f11_loved_c6 (n : Nat) (I : (Nat → Nat → Int32)) (O : (Nat → Nat → Option Nat)) : Nat → Nat → Int32 → Int32 → Int32 → Option (Int32)
  | 0, _, _, _, _ => none
  | m + 1, b0, y1, y2, y3 => (if (I (rO O (rO O b0 0) 0) 3) ≤ y3 then some (y1) else (f10_allWear n I O (rO O (rO O b0 0) 0) y3).bind fun r4 => (if r4 ≤ y2 then f11_loved_c6 n I O m b0 y1 y2 (y3 + 1) else f11_loved_c6 n I O m b0 y3 r4 (y3 + 1)))
set_option maxHeartbeats 4000000 in
set_option maxRecDepth 20000 in
theorem o11_loved_c6 {g : pG} {Qx : Option Value → pW → Prop} {Z : pZ} {I : (Nat → Nat → Int32)} {L : (Nat → Nat → Int64)} {O : (Nat → Nat → Option Nat)} {n : Nat} {res : Int32} (d : Nat) (hW : WT Z O) (hQ : Qx (some (.int res)) (Z, I, L, O)) : ∀ (m : Nat) (b0 : Nat) (y1 : Int32) (y2 : Int32) (y3 : Int32), (Z[b0]? = some (11, 11)) → f11_loved_c6 n I O m b0 y1 y2 y3 = some res → Ok g (d + 5, RX11, cX11_loved, 5, false, 0, 0, Z.length, pSl Z) Qx 6 [(0, .ref b0), (1, .int y1), (2, .int y2), (3, .int y3)] [] (Z, I, L, O) := by
  intro m
  induction m with
  | zero => intro b0 y1 y2 y3 hZ_b0 h; rw [f11_loved_c6] at h; cases h
  | succ m ih =>
    intro b0 y1 y2 y3 hZ_b0 h
    rw [f11_loved_c6] at h
    refine ok_iload_n dX11_loved_6 3 rfl ?_
    refine ok_aload_n dX11_loved_7 0 rfl ?_
    have hT1 : Z[(rO O b0 0)]? = some (9, 10) := (wt_f (ci := 11) (k := 0) hW hZ_b0 rfl).2
    refine ok_getR (ci := 11) (k := 0) dX11_loved_8 flRX11_10 rfl hW hZ_b0 (by decide) ?_
    have hT2 : Z[(rO O (rO O b0 0) 0)]? = some (10, 5) := (wt_f (ci := 9) (k := 0) hW hT1 rfl).2
    refine ok_getR (ci := 9) (k := 0) dX11_loved_11 flRX11_79 rfl hW hT1 (by decide) ?_
    refine ok_getI (ci := 10) (k := 3) dX11_loved_14 flRX11_256 rfl hT2 (by decide) ?_
    refine ok_icmp_ge (t := 50) dX11_loved_17 (by decide) (fun hc3 => ?_) (fun hc3 => ?_)
    · have h := (if_pos hc3).symm.trans h
      refine ok_iload_n dX11_loved_50 1 rfl ?_
      cases h
      exact ok_iret dX11_loved_51 hQ
    · have h := (if_neg hc3).symm.trans h
      refine ok_aload_n dX11_loved_20 0 rfl ?_
      refine ok_getR (ci := 11) (k := 0) dX11_loved_21 flRX11_10 rfl hW hZ_b0 (by decide) ?_
      refine ok_getR (ci := 9) (k := 0) dX11_loved_24 flRX11_79 rfl hW hT1 (by decide) ?_
      refine ok_iload_n dX11_loved_27 3 rfl ?_
      obtain ⟨r4, hr5, h⟩ := bd h
      refine ok_callV (d := ((d + 0) + 4)) (mt := m10_allWear) (mc := 0) (ms := 0) (As := [.int y3]) (r := []) dX11_loved_28 mo10_allWear mv10_allWear lkRX11_370 rfl hT2 (q := (RX10, TX10, 5)) rfl rfl rfl (Nat.le_of_ble_eq_true rfl) (by show _ + 1 ≤ d + _; omega) (Nat.le_refl _) (Nat.le_refl _) (pRt_mono ?_)
      refine k10_allWear (d + 0) hW hT2 hr5 ?_
      intro _
      show Ok g _ Qx 31 [(0, .ref b0), (1, .int y1), (2, .int y2), (3, .int y3)] [.int r4] (Z, I, L, O)
      refine ok_istore (l' := [(4, .int r4), (0, .ref b0), (1, .int y1), (2, .int y2), (3, .int y3)]) dX11_loved_31 (Nat.le_of_ble_eq_true rfl) rfl ?_
      refine ok_iload dX11_loved_33 0 rfl ?_
      refine ok_iload_n dX11_loved_35 3 rfl ?_
      refine ok_icmp_le (t := 44) dX11_loved_36 (by decide) (fun hc6 => ?_) (fun hc6 => ?_)
      · have h := (if_pos hc6).symm.trans h
        refine ok_iinc (u := (y3 + 1)) (l' := [(3, .int (y3 + 1)), (4, .int r4), (0, .ref b0), (1, .int y1), (2, .int y2)]) dX11_loved_44 4 rfl rfl (Nat.le_of_ble_eq_true rfl) rfl ?_
        refine ok_goto (t := 6) dX11_loved_47 (by decide) ?_
        refine ok_sub [2, 3, 4, 0] rfl ?_
        exact ih b0 y1 y2 (y3 + 1) hZ_b0 h
      · have h := (if_neg hc6).symm.trans h
        refine ok_iload dX11_loved_39 0 rfl ?_
        refine ok_istore_n (l' := [(2, .int r4), (4, .int r4), (0, .ref b0), (1, .int y1), (3, .int y3)]) dX11_loved_41 rfl (Nat.le_of_ble_eq_true rfl) rfl ?_
        refine ok_iload_n dX11_loved_42 4 rfl ?_
        refine ok_istore_n (l' := [(1, .int y3), (2, .int r4), (4, .int r4), (0, .ref b0), (3, .int y3)]) dX11_loved_43 rfl (Nat.le_of_ble_eq_true rfl) rfl ?_
        refine ok_iinc (u := (y3 + 1)) (l' := [(3, .int (y3 + 1)), (1, .int y3), (2, .int r4), (4, .int r4), (0, .ref b0)]) dX11_loved_44 4 rfl rfl (Nat.le_of_ble_eq_true rfl) rfl ?_
        refine ok_goto (t := 6) dX11_loved_47 (by decide) ?_
        refine ok_sub [4, 1, 2, 0] rfl ?_
        exact ih b0 y3 r4 (y3 + 1) hZ_b0 h
def f11_loved (n : Nat) (I : (Nat → Nat → Int32)) (O : (Nat → Nat → Option Nat)) (a0 : Nat) : Option (Int32) := f11_loved_c6 n I O n a0 (-1 : Int32) (0 : Int32) (0 : Int32)
set_option maxHeartbeats 4000000 in
set_option maxRecDepth 20000 in
theorem o11_loved {g : pG} {Qx : Option Value → pW → Prop} {Z : pZ} {I : (Nat → Nat → Int32)} {L : (Nat → Nat → Int64)} {O : (Nat → Nat → Option Nat)} {n : Nat} {a0 : Nat} {res : Int32} (d : Nat) (hW : WT Z O) (hZ0 : Z[a0]? = some (11, 11)) (h : f11_loved n I O a0 = some res) (hQ : Qx (some (.int res)) (Z, I, L, O)) : Ok g (d + 5, RX11, cX11_loved, 5, false, 0, 0, Z.length, pSl Z) Qx 0 [(0, .ref a0)] [] (Z, I, L, O) := by
  unfold f11_loved at h
  refine ok_iconst (v := (-1)) dX11_loved_0 (by decide) ?_
  refine ok_istore_n (l' := [(1, .int (-1)), (0, .ref a0)]) dX11_loved_1 rfl (Nat.le_of_ble_eq_true rfl) rfl ?_
  refine ok_iconst (v := 0) dX11_loved_2 (by decide) ?_
  refine ok_istore_n (l' := [(2, .int 0), (1, .int (-1)), (0, .ref a0)]) dX11_loved_3 rfl (Nat.le_of_ble_eq_true rfl) rfl ?_
  refine ok_iconst (v := 0) dX11_loved_4 (by decide) ?_
  refine ok_istore_n (l' := [(3, .int 0), (2, .int 0), (1, .int (-1)), (0, .ref a0)]) dX11_loved_5 rfl (Nat.le_of_ble_eq_true rfl) rfl ?_
  refine ok_sub [3, 2, 1, 0] rfl ?_
  exact o11_loved_c6 d hW hQ  n a0 (-1 : Int32) (0 : Int32) (0 : Int32) hZ0 h
theorem k11_loved {g : pG} {Q : Option Value → pW → Prop} {Z : pZ} {I : (Nat → Nat → Int32)} {L : (Nat → Nat → Int64)} {O : (Nat → Nat → Option Nat)} {n : Nat} {a0 : Nat} {res : Int32} (d : Nat) (hW : WT Z O) (hZ0 : Z[a0]? = some (11, 11)) (h : f11_loved n I O a0 = some res) (hQ : Q (some (.int res)) (Z, I, L, O)) : CT g (d + 5) m11_loved 0 0 [.ref a0] (Z, I, L, O) Q :=
  ct_of_ok (mt := m11_loved) (ini := false) mo11_loved.2.2.2.2 (fun h => by cases h) (Nat.le_of_ble_eq_true rfl) (o11_loved d hW hZ0 h ⟨trivial, hQ, rfl, rfl⟩)
theorem dX11_dumb_0 : decode cX11_dumb 0 = .ok (.iconst 0, 1) := by decide +kernel
theorem dX11_dumb_1 : decode cX11_dumb 1 = .ok (.istore_n 1, 1) := by decide +kernel
theorem dX11_dumb_2 : decode cX11_dumb 2 = .ok (.iconst 0, 1) := by decide +kernel
theorem dX11_dumb_3 : decode cX11_dumb 3 = .ok (.istore_n 2, 1) := by decide +kernel
theorem dX11_dumb_4 : decode cX11_dumb 4 = .ok (.iload_n 2, 1) := by decide +kernel
theorem dX11_dumb_5 : decode cX11_dumb 5 = .ok (.aload_n 0, 1) := by decide +kernel
theorem dX11_dumb_6 : decode cX11_dumb 6 = .ok (.getfield 10, 3) := by decide +kernel
theorem dX11_dumb_9 : decode cX11_dumb 9 = .ok (.getfield 79, 3) := by decide +kernel
theorem dX11_dumb_12 : decode cX11_dumb 12 = .ok (.getfield 256, 3) := by decide +kernel
theorem dX11_dumb_15 : decode cX11_dumb 15 = .ok (.if_icmp .ge 29, 3) := by decide +kernel
theorem dX11_dumb_18 : decode cX11_dumb 18 = .ok (.aload_n 0, 1) := by decide +kernel
theorem dX11_dumb_19 : decode cX11_dumb 19 = .ok (.getfield 10, 3) := by decide +kernel
theorem dX11_dumb_22 : decode cX11_dumb 22 = .ok (.getfield 79, 3) := by decide +kernel
theorem dX11_dumb_25 : decode cX11_dumb 25 = .ok (.iload_n 2, 1) := by decide +kernel
theorem dX11_dumb_26 : decode cX11_dumb 26 = .ok (.invokevirtual 373, 3) := by decide +kernel
theorem dX11_dumb_29 : decode cX11_dumb 29 = .ok (.ifCond .eq 9, 3) := by decide +kernel
theorem dX11_dumb_32 : decode cX11_dumb 32 = .ok (.iload_n 1, 1) := by decide +kernel
theorem dX11_dumb_33 : decode cX11_dumb 33 = .ok (.iconst 1, 1) := by decide +kernel
theorem dX11_dumb_34 : decode cX11_dumb 34 = .ok (.iload_n 2, 1) := by decide +kernel
theorem dX11_dumb_35 : decode cX11_dumb 35 = .ok (.ishl, 1) := by decide +kernel
theorem dX11_dumb_36 : decode cX11_dumb 36 = .ok (.ior, 1) := by decide +kernel
theorem dX11_dumb_37 : decode cX11_dumb 37 = .ok (.istore_n 1, 1) := by decide +kernel
theorem dX11_dumb_38 : decode cX11_dumb 38 = .ok (.iinc 2 1, 3) := by decide +kernel
theorem dX11_dumb_41 : decode cX11_dumb 41 = .ok (.goto (-37), 3) := by decide +kernel
theorem dX11_dumb_44 : decode cX11_dumb 44 = .ok (.iload_n 1, 1) := by decide +kernel
theorem dX11_dumb_45 : decode cX11_dumb 45 = .ok (.ireturn, 1) := by decide +kernel
def m11_dumb : pMT := (yX11_dumb, cX11_dumb, 3, some .int)
theorem mo11_dumb : mOK m11_dumb 0 := ⟨tb_i 1260 (by decide +kernel), wi_RX11, ⟨wn_RX11.1, wn_RX11.2, by decide +kernel⟩, by decide, plainFor_of_name wp_RX11⟩
theorem mv11_dumb : mV m11_dumb := ⟨tb_i 1258 (by decide +kernel), tb_i 1259 (by decide +kernel)⟩
def f11_dumb_c4 (n : Nat) (I : (Nat → Nat → Int32)) (O : (Nat → Nat → Option Nat)) : Nat → Nat → Int32 → Int32 → Option (Int32)
  | 0, _, _, _ => none
  | m + 1, b0, y1, y2 => (if (I (rO O (rO O b0 0) 0) 3) ≤ y2 then some (y1) else (f10_isDumb n I O (rO O (rO O b0 0) 0) y2).bind fun r4 => (if r4 = 0 then f11_dumb_c4 n I O m b0 y1 (y2 + 1) else bl ((y1 ||| ((1 : Int32) <<< (y2 &&& 31))) : Int32) fun z7 => f11_dumb_c4 n I O m b0 z7 (y2 + 1)))
set_option maxHeartbeats 4000000 in
set_option maxRecDepth 20000 in
theorem o11_dumb_c4 {g : pG} {Qx : Option Value → pW → Prop} {Z : pZ} {I : (Nat → Nat → Int32)} {L : (Nat → Nat → Int64)} {O : (Nat → Nat → Option Nat)} {n : Nat} {res : Int32} (d : Nat) (hW : WT Z O) (hQ : Qx (some (.int res)) (Z, I, L, O)) : ∀ (m : Nat) (b0 : Nat) (y1 : Int32) (y2 : Int32), (Z[b0]? = some (11, 11)) → f11_dumb_c4 n I O m b0 y1 y2 = some res → Ok g (d + 5, RX11, cX11_dumb, 3, false, 0, 0, Z.length, pSl Z) Qx 4 [(0, .ref b0), (1, .int y1), (2, .int y2)] [] (Z, I, L, O) := by
  intro m
  induction m with
  | zero => intro b0 y1 y2 hZ_b0 h; rw [f11_dumb_c4] at h; cases h
  | succ m ih =>
    intro b0 y1 y2 hZ_b0 h
    rw [f11_dumb_c4] at h
    refine ok_iload_n dX11_dumb_4 2 rfl ?_
    refine ok_aload_n dX11_dumb_5 0 rfl ?_
    have hT1 : Z[(rO O b0 0)]? = some (9, 10) := (wt_f (ci := 11) (k := 0) hW hZ_b0 rfl).2
    refine ok_getR (ci := 11) (k := 0) dX11_dumb_6 flRX11_10 rfl hW hZ_b0 (by decide) ?_
    have hT2 : Z[(rO O (rO O b0 0) 0)]? = some (10, 5) := (wt_f (ci := 9) (k := 0) hW hT1 rfl).2
    refine ok_getR (ci := 9) (k := 0) dX11_dumb_9 flRX11_79 rfl hW hT1 (by decide) ?_
    refine ok_getI (ci := 10) (k := 3) dX11_dumb_12 flRX11_256 rfl hT2 (by decide) ?_
    refine ok_icmp_ge (t := 44) dX11_dumb_15 (by decide) (fun hc3 => ?_) (fun hc3 => ?_)
    · have h := (if_pos hc3).symm.trans h
      refine ok_iload_n dX11_dumb_44 1 rfl ?_
      cases h
      exact ok_iret dX11_dumb_45 hQ
    · have h := (if_neg hc3).symm.trans h
      refine ok_aload_n dX11_dumb_18 0 rfl ?_
      refine ok_getR (ci := 11) (k := 0) dX11_dumb_19 flRX11_10 rfl hW hZ_b0 (by decide) ?_
      refine ok_getR (ci := 9) (k := 0) dX11_dumb_22 flRX11_79 rfl hW hT1 (by decide) ?_
      refine ok_iload_n dX11_dumb_25 2 rfl ?_
      obtain ⟨r4, hr5, h⟩ := bd h
      refine ok_callV (d := ((d + 0) + 4)) (mt := m10_isDumb) (mc := 0) (ms := 0) (As := [.int y2]) (r := []) dX11_dumb_26 mo10_isDumb mv10_isDumb lkRX11_373 rfl hT2 (q := (RX10, TX10, 5)) rfl rfl rfl (Nat.le_of_ble_eq_true rfl) (by show _ + 1 ≤ d + _; omega) (Nat.le_refl _) (Nat.le_refl _) (pRt_mono ?_)
      refine k10_isDumb (d + 0) hW hT2 hr5 ?_
      intro hbr4
      show Ok g _ Qx 29 [(0, .ref b0), (1, .int y1), (2, .int y2)] [.int r4] (Z, I, L, O)
      refine ok_if_eq (t := 38) dX11_dumb_29 (by decide) (fun hc6 => ?_) (fun hc6 => ?_)
      · have h := (if_pos hc6).symm.trans h
        refine ok_iinc (u := (y2 + 1)) (l' := [(2, .int (y2 + 1)), (0, .ref b0), (1, .int y1)]) dX11_dumb_38 2 rfl rfl (Nat.le_of_ble_eq_true rfl) rfl ?_
        refine ok_goto (t := 4) dX11_dumb_41 (by decide) ?_
        refine ok_sub [1, 2, 0] rfl ?_
        exact ih b0 y1 (y2 + 1) hZ_b0 h
      · have h := (if_neg hc6).symm.trans h
        refine ok_iload_n dX11_dumb_32 1 rfl ?_
        refine ok_iconst (v := 1) dX11_dumb_33 (by decide) ?_
        refine ok_iload_n dX11_dumb_34 2 rfl ?_
        refine ok_ishl dX11_dumb_35 ?_
        refine ok_ior dX11_dumb_36 ?_
        obtain ⟨z7, ez7, h⟩ := blE h
        refine ok_nm ez7 ?_
        refine ok_istore_n (l' := [(1, .int z7), (0, .ref b0), (2, .int y2)]) dX11_dumb_37 rfl (Nat.le_of_ble_eq_true rfl) rfl ?_
        refine ok_iinc (u := (y2 + 1)) (l' := [(2, .int (y2 + 1)), (1, .int z7), (0, .ref b0)]) dX11_dumb_38 2 rfl rfl (Nat.le_of_ble_eq_true rfl) rfl ?_
        refine ok_goto (t := 4) dX11_dumb_41 (by decide) ?_
        refine ok_sub [2, 1, 0] rfl ?_
        exact ih b0 z7 (y2 + 1) hZ_b0 h
def f11_dumb (n : Nat) (I : (Nat → Nat → Int32)) (O : (Nat → Nat → Option Nat)) (a0 : Nat) : Option (Int32) := f11_dumb_c4 n I O n a0 (0 : Int32) (0 : Int32)
set_option maxHeartbeats 4000000 in
set_option maxRecDepth 20000 in
theorem o11_dumb {g : pG} {Qx : Option Value → pW → Prop} {Z : pZ} {I : (Nat → Nat → Int32)} {L : (Nat → Nat → Int64)} {O : (Nat → Nat → Option Nat)} {n : Nat} {a0 : Nat} {res : Int32} (d : Nat) (hW : WT Z O) (hZ0 : Z[a0]? = some (11, 11)) (h : f11_dumb n I O a0 = some res) (hQ : Qx (some (.int res)) (Z, I, L, O)) : Ok g (d + 5, RX11, cX11_dumb, 3, false, 0, 0, Z.length, pSl Z) Qx 0 [(0, .ref a0)] [] (Z, I, L, O) := by
  unfold f11_dumb at h
  refine ok_iconst (v := 0) dX11_dumb_0 (by decide) ?_
  refine ok_istore_n (l' := [(1, .int 0), (0, .ref a0)]) dX11_dumb_1 rfl (Nat.le_of_ble_eq_true rfl) rfl ?_
  refine ok_iconst (v := 0) dX11_dumb_2 (by decide) ?_
  refine ok_istore_n (l' := [(2, .int 0), (1, .int 0), (0, .ref a0)]) dX11_dumb_3 rfl (Nat.le_of_ble_eq_true rfl) rfl ?_
  refine ok_sub [2, 1, 0] rfl ?_
  exact o11_dumb_c4 d hW hQ  n a0 (0 : Int32) (0 : Int32) hZ0 h
theorem k11_dumb {g : pG} {Q : Option Value → pW → Prop} {Z : pZ} {I : (Nat → Nat → Int32)} {L : (Nat → Nat → Int64)} {O : (Nat → Nat → Option Nat)} {n : Nat} {a0 : Nat} {res : Int32} (d : Nat) (hW : WT Z O) (hZ0 : Z[a0]? = some (11, 11)) (h : f11_dumb n I O a0 = some res) (hQ : Q (some (.int res)) (Z, I, L, O)) : CT g (d + 5) m11_dumb 0 0 [.ref a0] (Z, I, L, O) Q :=
  ct_of_ok (mt := m11_dumb) (ini := false) mo11_dumb.2.2.2.2 (fun h => by cases h) (Nat.le_of_ble_eq_true rfl) (o11_dumb d hW hZ0 h ⟨trivial, hQ, rfl, rfl⟩)
theorem dX11_ledger_0 : decode cX11_ledger 0 = .ok (.iload_n 1, 1) := by decide +kernel
theorem dX11_ledger_1 : decode cX11_ledger 1 = .ok (.iconst (-1), 1) := by decide +kernel
theorem dX11_ledger_2 : decode cX11_ledger 2 = .ok (.if_icmp .ne 17, 3) := by decide +kernel
theorem dX11_ledger_5 : decode cX11_ledger 5 = .ok (.aload_n 0, 1) := by decide +kernel
theorem dX11_ledger_6 : decode cX11_ledger 6 = .ok (.getfield 10, 3) := by decide +kernel
theorem dX11_ledger_9 : decode cX11_ledger 9 = .ok (.getfield 79, 3) := by decide +kernel
theorem dX11_ledger_12 : decode cX11_ledger 12 = .ok (.getfield 94, 3) := by decide +kernel
theorem dX11_ledger_15 : decode cX11_ledger 15 = .ok (.getfield 262, 3) := by decide +kernel
theorem dX11_ledger_18 : decode cX11_ledger 18 = .ok (.ireturn, 1) := by decide +kernel
theorem dX11_ledger_19 : decode cX11_ledger 19 = .ok (.aload_n 0, 1) := by decide +kernel
theorem dX11_ledger_20 : decode cX11_ledger 20 = .ok (.getfield 10, 3) := by decide +kernel
theorem dX11_ledger_23 : decode cX11_ledger 23 = .ok (.getfield 79, 3) := by decide +kernel
theorem dX11_ledger_26 : decode cX11_ledger 26 = .ok (.iload_n 1, 1) := by decide +kernel
theorem dX11_ledger_27 : decode cX11_ledger 27 = .ok (.invokevirtual 152, 3) := by decide +kernel
theorem dX11_ledger_30 : decode cX11_ledger 30 = .ok (.ifCond .eq 20, 3) := by decide +kernel
theorem dX11_ledger_33 : decode cX11_ledger 33 = .ok (.aload_n 0, 1) := by decide +kernel
theorem dX11_ledger_34 : decode cX11_ledger 34 = .ok (.getfield 10, 3) := by decide +kernel
theorem dX11_ledger_37 : decode cX11_ledger 37 = .ok (.getfield 79, 3) := by decide +kernel
theorem dX11_ledger_40 : decode cX11_ledger 40 = .ok (.getfield 94, 3) := by decide +kernel
theorem dX11_ledger_43 : decode cX11_ledger 43 = .ok (.iload_n 1, 1) := by decide +kernel
theorem dX11_ledger_44 : decode cX11_ledger 44 = .ok (.invokevirtual 376, 3) := by decide +kernel
theorem dX11_ledger_47 : decode cX11_ledger 47 = .ok (.goto 5, 3) := by decide +kernel
theorem dX11_ledger_50 : decode cX11_ledger 50 = .ok (.bipush (-2), 2) := by decide +kernel
theorem dX11_ledger_52 : decode cX11_ledger 52 = .ok (.ireturn, 1) := by decide +kernel
def m11_ledger : pMT := (yX11_ledger, cX11_ledger, 2, some .int)
theorem mo11_ledger : mOK m11_ledger 1 := ⟨tb_i 1268 (by decide +kernel), wi_RX11, ⟨wn_RX11.1, wn_RX11.2, by decide +kernel⟩, by decide, plainFor_of_name wp_RX11⟩
theorem mv11_ledger : mV m11_ledger := ⟨tb_i 1266 (by decide +kernel), tb_i 1267 (by decide +kernel)⟩
def f11_ledger (n : Nat) (I : (Nat → Nat → Int32)) (O : (Nat → Nat → Option Nat)) (a0 : Nat) (x1 : Int32) : Option (Int32) := (if x1 = (-1 : Int32) then some ((I (rO O (rO O (rO O a0 0) 0) 2) 3)) else (f10_hasRoll I (rO O (rO O a0 0) 0) x1).bind fun r4 => (if r4 = 0 then some (((-2) : Int32)) else (f3_pagesOf n I O (rO O (rO O (rO O a0 0) 0) 2) x1).bind fun r8 => some (r8)))
set_option maxHeartbeats 4000000 in
set_option maxRecDepth 20000 in
theorem o11_ledger {g : pG} {Qx : Option Value → pW → Prop} {Z : pZ} {I : (Nat → Nat → Int32)} {L : (Nat → Nat → Int64)} {O : (Nat → Nat → Option Nat)} {n : Nat} {a0 : Nat} {x1 : Int32} {res : Int32} (d : Nat) (hW : WT Z O) (hZ0 : Z[a0]? = some (11, 11)) (h : f11_ledger n I O a0 x1 = some res) (hQ : Qx (some (.int res)) (Z, I, L, O)) : Ok g (d + 4, RX11, cX11_ledger, 2, false, 0, 0, Z.length, pSl Z) Qx 0 [(0, .ref a0), (1, .int x1)] [] (Z, I, L, O) := by
  unfold f11_ledger at h
  refine ok_iload_n dX11_ledger_0 1 rfl ?_
  refine ok_iconst (v := (-1)) dX11_ledger_1 (by decide) ?_
  refine ok_icmp_ne (t := 19) dX11_ledger_2 (by decide) (fun hc1 => ?_) (fun hc1 => ?_)
  · have h := (if_neg hc1).symm.trans h
    refine ok_aload_n dX11_ledger_19 0 rfl ?_
    have hT2 : Z[(rO O a0 0)]? = some (9, 10) := (wt_f (ci := 11) (k := 0) hW hZ0 rfl).2
    refine ok_getR (ci := 11) (k := 0) dX11_ledger_20 flRX11_10 rfl hW hZ0 (by decide) ?_
    have hT3 : Z[(rO O (rO O a0 0) 0)]? = some (10, 5) := (wt_f (ci := 9) (k := 0) hW hT2 rfl).2
    refine ok_getR (ci := 9) (k := 0) dX11_ledger_23 flRX11_79 rfl hW hT2 (by decide) ?_
    refine ok_iload_n dX11_ledger_26 1 rfl ?_
    obtain ⟨r4, hr5, h⟩ := bd h
    refine ok_callV (d := ((d + 1) + 2)) (mt := m10_hasRoll) (mc := 0) (ms := 0) (As := [.int x1]) (r := []) dX11_ledger_27 mo10_hasRoll mv10_hasRoll lkRX11_152 rfl hT3 (q := (RX10, TX10, 5)) rfl rfl rfl (Nat.le_of_ble_eq_true rfl) (by show _ + 1 ≤ d + _; omega) (Nat.le_refl _) (Nat.le_refl _) (pRt_mono ?_)
    refine k10_hasRoll (d + 1) hW hT3 hr5 ?_
    intro hbr4
    show Ok g _ Qx 30 [(0, .ref a0), (1, .int x1)] [.int r4] (Z, I, L, O)
    refine ok_if_eq (t := 50) dX11_ledger_30 (by decide) (fun hc6 => ?_) (fun hc6 => ?_)
    · have h := (if_pos hc6).symm.trans h
      refine ok_bipush (v := (-2)) dX11_ledger_50 (by decide) ?_
      cases h
      exact ok_iret dX11_ledger_52 hQ
    · have h := (if_neg hc6).symm.trans h
      refine ok_aload_n dX11_ledger_33 0 rfl ?_
      refine ok_getR (ci := 11) (k := 0) dX11_ledger_34 flRX11_10 rfl hW hZ0 (by decide) ?_
      refine ok_getR (ci := 9) (k := 0) dX11_ledger_37 flRX11_79 rfl hW hT2 (by decide) ?_
      have hT7 : Z[(rO O (rO O (rO O a0 0) 0) 2)]? = some (3, 6) := (wt_f (ci := 10) (k := 2) hW hT3 rfl).2
      refine ok_getR (ci := 10) (k := 2) dX11_ledger_40 flRX11_94 rfl hW hT3 (by decide) ?_
      refine ok_iload_n dX11_ledger_43 1 rfl ?_
      obtain ⟨r8, hr9, h⟩ := bd h
      refine ok_callV (d := ((d + 0) + 3)) (mt := m3_pagesOf) (mc := 0) (ms := 0) (As := [.int x1]) (r := []) dX11_ledger_44 mo3_pagesOf mv3_pagesOf lkRX11_376 rfl hT7 (q := (RX3, TX3, 6)) rfl rfl rfl (Nat.le_of_ble_eq_true rfl) (by show _ + 1 ≤ d + _; omega) (Nat.le_refl _) (Nat.le_refl _) (pRt_mono ?_)
      refine k3_pagesOf (d + 0) hW hT7 hr9 ?_
      intro _
      show Ok g _ Qx 47 [(0, .ref a0), (1, .int x1)] [.int r8] (Z, I, L, O)
      refine ok_goto (t := 52) dX11_ledger_47 (by decide) ?_
      cases h
      exact ok_iret dX11_ledger_52 hQ
  · have h := (if_pos hc1).symm.trans h
    refine ok_aload_n dX11_ledger_5 0 rfl ?_
    have hT10 : Z[(rO O a0 0)]? = some (9, 10) := (wt_f (ci := 11) (k := 0) hW hZ0 rfl).2
    refine ok_getR (ci := 11) (k := 0) dX11_ledger_6 flRX11_10 rfl hW hZ0 (by decide) ?_
    have hT11 : Z[(rO O (rO O a0 0) 0)]? = some (10, 5) := (wt_f (ci := 9) (k := 0) hW hT10 rfl).2
    refine ok_getR (ci := 9) (k := 0) dX11_ledger_9 flRX11_79 rfl hW hT10 (by decide) ?_
    have hT12 : Z[(rO O (rO O (rO O a0 0) 0) 2)]? = some (3, 6) := (wt_f (ci := 10) (k := 2) hW hT11 rfl).2
    refine ok_getR (ci := 10) (k := 2) dX11_ledger_12 flRX11_94 rfl hW hT11 (by decide) ?_
    refine ok_getI (ci := 3) (k := 3) dX11_ledger_15 flRX11_262 rfl hT12 (by decide) ?_
    cases h
    exact ok_iret dX11_ledger_18 hQ
theorem k11_ledger {g : pG} {Q : Option Value → pW → Prop} {Z : pZ} {I : (Nat → Nat → Int32)} {L : (Nat → Nat → Int64)} {O : (Nat → Nat → Option Nat)} {n : Nat} {a0 : Nat} {x1 : Int32} {res : Int32} (d : Nat) (hW : WT Z O) (hZ0 : Z[a0]? = some (11, 11)) (h : f11_ledger n I O a0 x1 = some res) (hQ : Q (some (.int res)) (Z, I, L, O)) : CT g (d + 4) m11_ledger 0 0 [.ref a0, .int x1] (Z, I, L, O) Q :=
  ct_of_ok (mt := m11_ledger) (ini := false) mo11_ledger.2.2.2.2 (fun h => by cases h) (Nat.le_of_ble_eq_true rfl) (o11_ledger d hW hZ0 h ⟨trivial, hQ, rfl, rfl⟩)
theorem dX11_image_0 : decode cX11_image 0 = .ok (.aload_n 0, 1) := by decide +kernel
theorem dX11_image_1 : decode cX11_image 1 = .ok (.getfield 16, 3) := by decide +kernel
theorem dX11_image_4 : decode cX11_image 4 = .ok (.aload_n 0, 1) := by decide +kernel
theorem dX11_image_5 : decode cX11_image 5 = .ok (.getfield 10, 3) := by decide +kernel
theorem dX11_image_8 : decode cX11_image 8 = .ok (.invokevirtual 379, 3) := by decide +kernel
theorem dX11_image_11 : decode cX11_image 11 = .ok (.aload_n 0, 1) := by decide +kernel
theorem dX11_image_12 : decode cX11_image 12 = .ok (.getfield 10, 3) := by decide +kernel
theorem dX11_image_15 : decode cX11_image 15 = .ok (.getfield 79, 3) := by decide +kernel
theorem dX11_image_18 : decode cX11_image 18 = .ok (.getfield 94, 3) := by decide +kernel
theorem dX11_image_21 : decode cX11_image 21 = .ok (.getfield 182, 3) := by decide +kernel
theorem dX11_image_24 : decode cX11_image 24 = .ok (.ireturn, 1) := by decide +kernel
def m11_image : pMT := (yX11_image, cX11_image, 1, some .int)
theorem mo11_image : mOK m11_image 0 := ⟨tb_i 1277 (by decide +kernel), wi_RX11, ⟨wn_RX11.1, wn_RX11.2, by decide +kernel⟩, by decide, plainFor_of_name wp_RX11⟩
theorem mv11_image : mV m11_image := ⟨tb_i 1275 (by decide +kernel), tb_i 1276 (by decide +kernel)⟩
def f11_image (n : Nat) (I : (Nat → Nat → Int32)) (O : (Nat → Nat → Option Nat)) (a0 : Nat) : Option (Int32 × (Nat → Nat → Int32)) := (f9_take n I O (rO O a0 1) (rO O a0 0)).bind fun r3 => some ((r3 (rO O (rO O (rO O a0 0) 0) 2) 4), r3)
set_option maxHeartbeats 4000000 in
set_option maxRecDepth 20000 in
theorem o11_image {g : pG} {Qx : Option Value → pW → Prop} {Z : pZ} {I : (Nat → Nat → Int32)} {L : (Nat → Nat → Int64)} {O : (Nat → Nat → Option Nat)} {n : Nat} {a0 : Nat} {res : Int32 × (Nat → Nat → Int32)} (d : Nat) (hW : WT Z O) (hZ0 : Z[a0]? = some (11, 11)) (h : f11_image n I O a0 = some res) (hQ : Qx (some (.int res.1)) (Z, res.2, L, O)) : Ok g (d + 6, RX11, cX11_image, 1, false, 0, 0, Z.length, pSl Z) Qx 0 [(0, .ref a0)] [] (Z, I, L, O) := by
  unfold f11_image at h
  refine ok_aload_n dX11_image_0 0 rfl ?_
  have hT1 : Z[(rO O a0 1)]? = some (9, 10) := (wt_f (ci := 11) (k := 1) hW hZ0 rfl).2
  refine ok_getR (ci := 11) (k := 1) dX11_image_1 flRX11_16 rfl hW hZ0 (by decide) ?_
  refine ok_aload_n dX11_image_4 0 rfl ?_
  have hT2 : Z[(rO O a0 0)]? = some (9, 10) := (wt_f (ci := 11) (k := 0) hW hZ0 rfl).2
  refine ok_getR (ci := 11) (k := 0) dX11_image_5 flRX11_10 rfl hW hZ0 (by decide) ?_
  obtain ⟨r3, hr4, h⟩ := bd h
  refine ok_callV (d := ((d + 0) + 5)) (mt := m9_take) (mc := 0) (ms := 0) (As := [.ref (rO O a0 0)]) (r := []) dX11_image_8 mo9_take mv9_take lkRX11_379 rfl hT1 (q := (RX9, TX9, 10)) rfl rfl rfl (Nat.le_of_ble_eq_true rfl) (by show _ + 1 ≤ d + _; omega) (Nat.le_refl _) (Nat.le_refl _) (pRt_mono ?_)
  refine k9_take (d + 0) hW hT1 hT2 hr4 ?_
  intro _
  show Ok g _ Qx 11 [(0, .ref a0)] [] (Z, r3, L, O)
  refine ok_aload_n dX11_image_11 0 rfl ?_
  refine ok_getR (ci := 11) (k := 0) dX11_image_12 flRX11_10 rfl hW hZ0 (by decide) ?_
  have hT5 : Z[(rO O (rO O a0 0) 0)]? = some (10, 5) := (wt_f (ci := 9) (k := 0) hW hT2 rfl).2
  refine ok_getR (ci := 9) (k := 0) dX11_image_15 flRX11_79 rfl hW hT2 (by decide) ?_
  have hT6 : Z[(rO O (rO O (rO O a0 0) 0) 2)]? = some (3, 6) := (wt_f (ci := 10) (k := 2) hW hT5 rfl).2
  refine ok_getR (ci := 10) (k := 2) dX11_image_18 flRX11_94 rfl hW hT5 (by decide) ?_
  refine ok_getI (ci := 3) (k := 4) dX11_image_21 flRX11_182 rfl hT6 (by decide) ?_
  cases h
  exact ok_iret dX11_image_24 hQ
theorem k11_image {g : pG} {Q : Option Value → pW → Prop} {Z : pZ} {I : (Nat → Nat → Int32)} {L : (Nat → Nat → Int64)} {O : (Nat → Nat → Option Nat)} {n : Nat} {a0 : Nat} {res : Int32 × (Nat → Nat → Int32)} (d : Nat) (hW : WT Z O) (hZ0 : Z[a0]? = some (11, 11)) (h : f11_image n I O a0 = some res) (hQ : Q (some (.int res.1)) (Z, res.2, L, O)) : CT g (d + 6) m11_image 0 0 [.ref a0] (Z, I, L, O) Q :=
  ct_of_ok (mt := m11_image) (ini := false) mo11_image.2.2.2.2 (fun h => by cases h) (Nat.le_of_ble_eq_true rfl) (o11_image d hW hZ0 h ⟨trivial, hQ, rfl, rfl⟩)
theorem dX11_back_0 : decode cX11_back 0 = .ok (.aload_n 0, 1) := by decide +kernel
theorem dX11_back_1 : decode cX11_back 1 = .ok (.getfield 10, 3) := by decide +kernel
theorem dX11_back_4 : decode cX11_back 4 = .ok (.aload_n 0, 1) := by decide +kernel
theorem dX11_back_5 : decode cX11_back 5 = .ok (.getfield 16, 3) := by decide +kernel
theorem dX11_back_8 : decode cX11_back 8 = .ok (.invokevirtual 379, 3) := by decide +kernel
theorem dX11_back_11 : decode cX11_back 11 = .ok (.aload_n 0, 1) := by decide +kernel
theorem dX11_back_12 : decode cX11_back 12 = .ok (.getfield 10, 3) := by decide +kernel
theorem dX11_back_15 : decode cX11_back 15 = .ok (.getfield 79, 3) := by decide +kernel
theorem dX11_back_18 : decode cX11_back 18 = .ok (.getfield 94, 3) := by decide +kernel
theorem dX11_back_21 : decode cX11_back 21 = .ok (.getfield 182, 3) := by decide +kernel
theorem dX11_back_24 : decode cX11_back 24 = .ok (.ireturn, 1) := by decide +kernel
def m11_back : pMT := (yX11_back, cX11_back, 1, some .int)
theorem mo11_back : mOK m11_back 0 := ⟨tb_i 1291 (by decide +kernel), wi_RX11, ⟨wn_RX11.1, wn_RX11.2, by decide +kernel⟩, by decide, plainFor_of_name wp_RX11⟩
theorem mv11_back : mV m11_back := ⟨tb_i 1289 (by decide +kernel), tb_i 1290 (by decide +kernel)⟩
def f11_back (n : Nat) (I : (Nat → Nat → Int32)) (O : (Nat → Nat → Option Nat)) (a0 : Nat) : Option (Int32 × (Nat → Nat → Int32)) := (f9_take n I O (rO O a0 0) (rO O a0 1)).bind fun r3 => some ((r3 (rO O (rO O (rO O a0 0) 0) 2) 4), r3)
set_option maxHeartbeats 4000000 in
set_option maxRecDepth 20000 in
theorem o11_back {g : pG} {Qx : Option Value → pW → Prop} {Z : pZ} {I : (Nat → Nat → Int32)} {L : (Nat → Nat → Int64)} {O : (Nat → Nat → Option Nat)} {n : Nat} {a0 : Nat} {res : Int32 × (Nat → Nat → Int32)} (d : Nat) (hW : WT Z O) (hZ0 : Z[a0]? = some (11, 11)) (h : f11_back n I O a0 = some res) (hQ : Qx (some (.int res.1)) (Z, res.2, L, O)) : Ok g (d + 6, RX11, cX11_back, 1, false, 0, 0, Z.length, pSl Z) Qx 0 [(0, .ref a0)] [] (Z, I, L, O) := by
  unfold f11_back at h
  refine ok_aload_n dX11_back_0 0 rfl ?_
  have hT1 : Z[(rO O a0 0)]? = some (9, 10) := (wt_f (ci := 11) (k := 0) hW hZ0 rfl).2
  refine ok_getR (ci := 11) (k := 0) dX11_back_1 flRX11_10 rfl hW hZ0 (by decide) ?_
  refine ok_aload_n dX11_back_4 0 rfl ?_
  have hT2 : Z[(rO O a0 1)]? = some (9, 10) := (wt_f (ci := 11) (k := 1) hW hZ0 rfl).2
  refine ok_getR (ci := 11) (k := 1) dX11_back_5 flRX11_16 rfl hW hZ0 (by decide) ?_
  obtain ⟨r3, hr4, h⟩ := bd h
  refine ok_callV (d := ((d + 0) + 5)) (mt := m9_take) (mc := 0) (ms := 0) (As := [.ref (rO O a0 1)]) (r := []) dX11_back_8 mo9_take mv9_take lkRX11_379 rfl hT1 (q := (RX9, TX9, 10)) rfl rfl rfl (Nat.le_of_ble_eq_true rfl) (by show _ + 1 ≤ d + _; omega) (Nat.le_refl _) (Nat.le_refl _) (pRt_mono ?_)
  refine k9_take (d + 0) hW hT1 hT2 hr4 ?_
  intro _
  show Ok g _ Qx 11 [(0, .ref a0)] [] (Z, r3, L, O)
  refine ok_aload_n dX11_back_11 0 rfl ?_
  refine ok_getR (ci := 11) (k := 0) dX11_back_12 flRX11_10 rfl hW hZ0 (by decide) ?_
  have hT5 : Z[(rO O (rO O a0 0) 0)]? = some (10, 5) := (wt_f (ci := 9) (k := 0) hW hT1 rfl).2
  refine ok_getR (ci := 9) (k := 0) dX11_back_15 flRX11_79 rfl hW hT1 (by decide) ?_
  have hT6 : Z[(rO O (rO O (rO O a0 0) 0) 2)]? = some (3, 6) := (wt_f (ci := 10) (k := 2) hW hT5 rfl).2
  refine ok_getR (ci := 10) (k := 2) dX11_back_18 flRX11_94 rfl hW hT5 (by decide) ?_
  refine ok_getI (ci := 3) (k := 4) dX11_back_21 flRX11_182 rfl hT6 (by decide) ?_
  cases h
  exact ok_iret dX11_back_24 hQ
theorem k11_back {g : pG} {Q : Option Value → pW → Prop} {Z : pZ} {I : (Nat → Nat → Int32)} {L : (Nat → Nat → Int64)} {O : (Nat → Nat → Option Nat)} {n : Nat} {a0 : Nat} {res : Int32 × (Nat → Nat → Int32)} (d : Nat) (hW : WT Z O) (hZ0 : Z[a0]? = some (11, 11)) (h : f11_back n I O a0 = some res) (hQ : Q (some (.int res.1)) (Z, res.2, L, O)) : CT g (d + 6) m11_back 0 0 [.ref a0] (Z, I, L, O) Q :=
  ct_of_ok (mt := m11_back) (ini := false) mo11_back.2.2.2.2 (fun h => by cases h) (Nat.le_of_ble_eq_true rfl) (o11_back d hW hZ0 h ⟨trivial, hQ, rfl, rfl⟩)
theorem dX11_about_0 : decode cX11_about 0 = .ok (.iload_n 1, 1) := by decide +kernel
theorem dX11_about_1 : decode cX11_about 1 = .ok (.tableswitch 120 0 7 #[47, 58, 69, 77, 85, 96, 104, 112], 47) := by decide +kernel
theorem dX11_about_48 : decode cX11_about 48 = .ok (.aload_n 0, 1) := by decide +kernel
theorem dX11_about_49 : decode cX11_about 49 = .ok (.getfield 10, 3) := by decide +kernel
theorem dX11_about_52 : decode cX11_about 52 = .ok (.getfield 79, 3) := by decide +kernel
theorem dX11_about_55 : decode cX11_about 55 = .ok (.getfield 256, 3) := by decide +kernel
theorem dX11_about_58 : decode cX11_about 58 = .ok (.ireturn, 1) := by decide +kernel
theorem dX11_about_59 : decode cX11_about 59 = .ok (.aload_n 0, 1) := by decide +kernel
theorem dX11_about_60 : decode cX11_about 60 = .ok (.getfield 10, 3) := by decide +kernel
theorem dX11_about_63 : decode cX11_about 63 = .ok (.getfield 79, 3) := by decide +kernel
theorem dX11_about_66 : decode cX11_about 66 = .ok (.getfield 259, 3) := by decide +kernel
theorem dX11_about_69 : decode cX11_about 69 = .ok (.ireturn, 1) := by decide +kernel
theorem dX11_about_70 : decode cX11_about 70 = .ok (.aload_n 0, 1) := by decide +kernel
theorem dX11_about_71 : decode cX11_about 71 = .ok (.getfield 10, 3) := by decide +kernel
theorem dX11_about_74 : decode cX11_about 74 = .ok (.getfield 125, 3) := by decide +kernel
theorem dX11_about_77 : decode cX11_about 77 = .ok (.ireturn, 1) := by decide +kernel
theorem dX11_about_78 : decode cX11_about 78 = .ok (.aload_n 0, 1) := by decide +kernel
theorem dX11_about_79 : decode cX11_about 79 = .ok (.getfield 10, 3) := by decide +kernel
theorem dX11_about_82 : decode cX11_about 82 = .ok (.getfield 149, 3) := by decide +kernel
theorem dX11_about_85 : decode cX11_about 85 = .ok (.ireturn, 1) := by decide +kernel
theorem dX11_about_86 : decode cX11_about 86 = .ok (.aload_n 0, 1) := by decide +kernel
theorem dX11_about_87 : decode cX11_about 87 = .ok (.getfield 10, 3) := by decide +kernel
theorem dX11_about_90 : decode cX11_about 90 = .ok (.getfield 103, 3) := by decide +kernel
theorem dX11_about_93 : decode cX11_about 93 = .ok (.getfield 382, 3) := by decide +kernel
theorem dX11_about_96 : decode cX11_about 96 = .ok (.ireturn, 1) := by decide +kernel
theorem dX11_about_97 : decode cX11_about 97 = .ok (.aload_n 0, 1) := by decide +kernel
theorem dX11_about_98 : decode cX11_about 98 = .ok (.getfield 10, 3) := by decide +kernel
theorem dX11_about_101 : decode cX11_about 101 = .ok (.getfield 282, 3) := by decide +kernel
theorem dX11_about_104 : decode cX11_about 104 = .ok (.ireturn, 1) := by decide +kernel
theorem dX11_about_105 : decode cX11_about 105 = .ok (.aload_n 0, 1) := by decide +kernel
theorem dX11_about_106 : decode cX11_about 106 = .ok (.getfield 10, 3) := by decide +kernel
theorem dX11_about_109 : decode cX11_about 109 = .ok (.getfield 355, 3) := by decide +kernel
theorem dX11_about_112 : decode cX11_about 112 = .ok (.ireturn, 1) := by decide +kernel
theorem dX11_about_113 : decode cX11_about 113 = .ok (.aload_n 0, 1) := by decide +kernel
theorem dX11_about_114 : decode cX11_about 114 = .ok (.getfield 35, 3) := by decide +kernel
theorem dX11_about_117 : decode cX11_about 117 = .ok (.getfield 117, 3) := by decide +kernel
theorem dX11_about_120 : decode cX11_about 120 = .ok (.ireturn, 1) := by decide +kernel
theorem dX11_about_121 : decode cX11_about 121 = .ok (.bipush (-2), 2) := by decide +kernel
theorem dX11_about_123 : decode cX11_about 123 = .ok (.ireturn, 1) := by decide +kernel
def m11_about : pMT := (yX11_about, cX11_about, 2, some .int)
theorem mo11_about : mOK m11_about 1 := ⟨tb_i 1295 (by decide +kernel), wi_RX11, ⟨wn_RX11.1, wn_RX11.2, by decide +kernel⟩, by decide, plainFor_of_name wp_RX11⟩
theorem mv11_about : mV m11_about := ⟨tb_i 1293 (by decide +kernel), tb_i 1294 (by decide +kernel)⟩
def f11_about (I : (Nat → Nat → Int32)) (O : (Nat → Nat → Option Nat)) (a0 : Nat) (x1 : Int32) : Option (Int32) := (if x1 = 0 then some ((I (rO O (rO O a0 0) 0) 3)) else (if x1 = 1 then some ((I (rO O (rO O a0 0) 0) 4)) else (if x1 = 2 then some ((I (rO O a0 0) 8)) else (if x1 = 3 then some ((I (rO O a0 0) 9)) else (if x1 = 4 then some ((I (rO O (rO O a0 0) 1) 2)) else (if x1 = 5 then some ((I (rO O a0 0) 6)) else (if x1 = 6 then some ((I (rO O a0 0) 7)) else (if x1 = 7 then some ((I (rO O a0 4) 4)) else some (((-2) : Int32))))))))))
set_option maxHeartbeats 4000000 in
set_option maxRecDepth 20000 in
theorem o11_about {g : pG} {Qx : Option Value → pW → Prop} {Z : pZ} {I : (Nat → Nat → Int32)} {L : (Nat → Nat → Int64)} {O : (Nat → Nat → Option Nat)} {a0 : Nat} {x1 : Int32} {res : Int32} (d : Nat) (hW : WT Z O) (hZ0 : Z[a0]? = some (11, 11)) (h : f11_about I O a0 x1 = some res) (hQ : Qx (some (.int res)) (Z, I, L, O)) : Ok g (d + 2, RX11, cX11_about, 2, false, 0, 0, Z.length, pSl Z) Qx 0 [(0, .ref a0), (1, .int x1)] [] (Z, I, L, O) := by
  unfold f11_about at h
  refine ok_iload_n dX11_about_0 1 rfl ?_
  by_cases hc1 : x1 = 0
  · have h := (if_pos hc1).symm.trans h
    refine ok_tabEq (t := 48) (off := 47) dX11_about_1 hc1 (by decide) (by decide) (by decide) (by decide) ?_
    refine ok_aload_n dX11_about_48 0 rfl ?_
    have hT2 : Z[(rO O a0 0)]? = some (9, 10) := (wt_f (ci := 11) (k := 0) hW hZ0 rfl).2
    refine ok_getR (ci := 11) (k := 0) dX11_about_49 flRX11_10 rfl hW hZ0 (by decide) ?_
    have hT3 : Z[(rO O (rO O a0 0) 0)]? = some (10, 5) := (wt_f (ci := 9) (k := 0) hW hT2 rfl).2
    refine ok_getR (ci := 9) (k := 0) dX11_about_52 flRX11_79 rfl hW hT2 (by decide) ?_
    refine ok_getI (ci := 10) (k := 3) dX11_about_55 flRX11_256 rfl hT3 (by decide) ?_
    cases h
    exact ok_iret dX11_about_58 hQ
  · have h := (if_neg hc1).symm.trans h
    by_cases hc4 : x1 = 1
    · have h := (if_pos hc4).symm.trans h
      refine ok_tabEq (t := 59) (off := 58) dX11_about_1 hc4 (by decide) (by decide) (by decide) (by decide) ?_
      refine ok_aload_n dX11_about_59 0 rfl ?_
      have hT5 : Z[(rO O a0 0)]? = some (9, 10) := (wt_f (ci := 11) (k := 0) hW hZ0 rfl).2
      refine ok_getR (ci := 11) (k := 0) dX11_about_60 flRX11_10 rfl hW hZ0 (by decide) ?_
      have hT6 : Z[(rO O (rO O a0 0) 0)]? = some (10, 5) := (wt_f (ci := 9) (k := 0) hW hT5 rfl).2
      refine ok_getR (ci := 9) (k := 0) dX11_about_63 flRX11_79 rfl hW hT5 (by decide) ?_
      refine ok_getI (ci := 10) (k := 4) dX11_about_66 flRX11_259 rfl hT6 (by decide) ?_
      cases h
      exact ok_iret dX11_about_69 hQ
    · have h := (if_neg hc4).symm.trans h
      by_cases hc7 : x1 = 2
      · have h := (if_pos hc7).symm.trans h
        refine ok_tabEq (t := 70) (off := 69) dX11_about_1 hc7 (by decide) (by decide) (by decide) (by decide) ?_
        refine ok_aload_n dX11_about_70 0 rfl ?_
        have hT8 : Z[(rO O a0 0)]? = some (9, 10) := (wt_f (ci := 11) (k := 0) hW hZ0 rfl).2
        refine ok_getR (ci := 11) (k := 0) dX11_about_71 flRX11_10 rfl hW hZ0 (by decide) ?_
        refine ok_getI (ci := 9) (k := 8) dX11_about_74 flRX11_125 rfl hT8 (by decide) ?_
        cases h
        exact ok_iret dX11_about_77 hQ
      · have h := (if_neg hc7).symm.trans h
        by_cases hc9 : x1 = 3
        · have h := (if_pos hc9).symm.trans h
          refine ok_tabEq (t := 78) (off := 77) dX11_about_1 hc9 (by decide) (by decide) (by decide) (by decide) ?_
          refine ok_aload_n dX11_about_78 0 rfl ?_
          have hT10 : Z[(rO O a0 0)]? = some (9, 10) := (wt_f (ci := 11) (k := 0) hW hZ0 rfl).2
          refine ok_getR (ci := 11) (k := 0) dX11_about_79 flRX11_10 rfl hW hZ0 (by decide) ?_
          refine ok_getI (ci := 9) (k := 9) dX11_about_82 flRX11_149 rfl hT10 (by decide) ?_
          cases h
          exact ok_iret dX11_about_85 hQ
        · have h := (if_neg hc9).symm.trans h
          by_cases hc11 : x1 = 4
          · have h := (if_pos hc11).symm.trans h
            refine ok_tabEq (t := 86) (off := 85) dX11_about_1 hc11 (by decide) (by decide) (by decide) (by decide) ?_
            refine ok_aload_n dX11_about_86 0 rfl ?_
            have hT12 : Z[(rO O a0 0)]? = some (9, 10) := (wt_f (ci := 11) (k := 0) hW hZ0 rfl).2
            refine ok_getR (ci := 11) (k := 0) dX11_about_87 flRX11_10 rfl hW hZ0 (by decide) ?_
            have hT13 : Z[(rO O (rO O a0 0) 1)]? = some (0, 3) := (wt_f (ci := 9) (k := 1) hW hT12 rfl).2
            refine ok_getR (ci := 9) (k := 1) dX11_about_90 flRX11_103 rfl hW hT12 (by decide) ?_
            refine ok_getI (ci := 0) (k := 2) dX11_about_93 flRX11_382 rfl hT13 (by decide) ?_
            cases h
            exact ok_iret dX11_about_96 hQ
          · have h := (if_neg hc11).symm.trans h
            by_cases hc14 : x1 = 5
            · have h := (if_pos hc14).symm.trans h
              refine ok_tabEq (t := 97) (off := 96) dX11_about_1 hc14 (by decide) (by decide) (by decide) (by decide) ?_
              refine ok_aload_n dX11_about_97 0 rfl ?_
              have hT15 : Z[(rO O a0 0)]? = some (9, 10) := (wt_f (ci := 11) (k := 0) hW hZ0 rfl).2
              refine ok_getR (ci := 11) (k := 0) dX11_about_98 flRX11_10 rfl hW hZ0 (by decide) ?_
              refine ok_getI (ci := 9) (k := 6) dX11_about_101 flRX11_282 rfl hT15 (by decide) ?_
              cases h
              exact ok_iret dX11_about_104 hQ
            · have h := (if_neg hc14).symm.trans h
              by_cases hc16 : x1 = 6
              · have h := (if_pos hc16).symm.trans h
                refine ok_tabEq (t := 105) (off := 104) dX11_about_1 hc16 (by decide) (by decide) (by decide) (by decide) ?_
                refine ok_aload_n dX11_about_105 0 rfl ?_
                have hT17 : Z[(rO O a0 0)]? = some (9, 10) := (wt_f (ci := 11) (k := 0) hW hZ0 rfl).2
                refine ok_getR (ci := 11) (k := 0) dX11_about_106 flRX11_10 rfl hW hZ0 (by decide) ?_
                refine ok_getI (ci := 9) (k := 7) dX11_about_109 flRX11_355 rfl hT17 (by decide) ?_
                cases h
                exact ok_iret dX11_about_112 hQ
              · have h := (if_neg hc16).symm.trans h
                by_cases hc18 : x1 = 7
                · have h := (if_pos hc18).symm.trans h
                  refine ok_tabEq (t := 113) (off := 112) dX11_about_1 hc18 (by decide) (by decide) (by decide) (by decide) ?_
                  refine ok_aload_n dX11_about_113 0 rfl ?_
                  have hT19 : Z[(rO O a0 4)]? = some (8, 6) := (wt_f (ci := 11) (k := 4) hW hZ0 rfl).2
                  refine ok_getR (ci := 11) (k := 4) dX11_about_114 flRX11_35 rfl hW hZ0 (by decide) ?_
                  refine ok_getI (ci := 8) (k := 4) dX11_about_117 flRX11_117 rfl hT19 (by decide) ?_
                  cases h
                  exact ok_iret dX11_about_120 hQ
                · have h := (if_neg hc18).symm.trans h
                  refine ok_tabOut (t := 121) dX11_about_1 (by have n0 := neI hc1 (a := 0) (by decide); have n1 := neI hc4 (a := 1) (by decide); have n2 := neI hc7 (a := 2) (by decide); have n3 := neI hc9 (a := 3) (by decide); have n4 := neI hc11 (a := 4) (by decide); have n5 := neI hc14 (a := 5) (by decide); have n6 := neI hc16 (a := 6) (by decide); have n7 := neI hc18 (a := 7) (by decide); omega) (by decide) ?_
                  refine ok_bipush (v := (-2)) dX11_about_121 (by decide) ?_
                  cases h
                  exact ok_iret dX11_about_123 hQ
theorem k11_about {g : pG} {Q : Option Value → pW → Prop} {Z : pZ} {I : (Nat → Nat → Int32)} {L : (Nat → Nat → Int64)} {O : (Nat → Nat → Option Nat)} {a0 : Nat} {x1 : Int32} {res : Int32} (d : Nat) (hW : WT Z O) (hZ0 : Z[a0]? = some (11, 11)) (h : f11_about I O a0 x1 = some res) (hQ : Q (some (.int res)) (Z, I, L, O)) : CT g (d + 2) m11_about 0 0 [.ref a0, .int x1] (Z, I, L, O) Q :=
  ct_of_ok (mt := m11_about) (ini := false) mo11_about.2.2.2.2 (fun h => by cases h) (Nat.le_of_ble_eq_true rfl) (o11_about d hW hZ0 h ⟨trivial, hQ, rfl, rfl⟩)
