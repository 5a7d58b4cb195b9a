theorem flRX12_22 : FL RX12 22 12 5 := ⟨(RX12, TX12, 34), rfl, by decide, tb_i 1310 (by decide +kernel)⟩
theorem flRX12_26 : FL RX12 26 12 6 := ⟨(RX12, TX12, 34), rfl, by decide, tb_i 1311 (by decide +kernel)⟩
theorem flRX12_32 : FL RX12 32 12 20 := ⟨(RX12, TX12, 34), rfl, by decide, tb_i 1325 (by decide +kernel)⟩
theorem flRX12_35 : FL RX12 35 12 21 := ⟨(RX12, TX12, 34), rfl, by decide, tb_i 1326 (by decide +kernel)⟩
theorem flRX12_39 : FL RX12 39 12 22 := ⟨(RX12, TX12, 34), rfl, by decide, tb_i 1327 (by decide +kernel)⟩
theorem flRX12_43 : FL RX12 43 12 23 := ⟨(RX12, TX12, 34), rfl, by decide, tb_i 1328 (by decide +kernel)⟩
theorem flRX12_343 : FL RX12 343 12 24 := ⟨(RX12, TX12, 34), rfl, by decide, tb_i 1329 (by decide +kernel)⟩
theorem lkRX12_261 : Cond.methodLink RX12 261 yX12_readText ∈ lw_tbl := tb_i 1452 (by decide +kernel)
theorem lkRX12_268 : Cond.methodLink RX12 268 yX12_clip ∈ lw_tbl := tb_i 1675 (by decide +kernel)
theorem lkRX12_272 : Cond.methodLink RX12 272 yX12_holesIn ∈ lw_tbl := tb_i 1668 (by decide +kernel)
theorem lkRX12_277 : Cond.methodLink RX12 277 yX12_digitsOf ∈ lw_tbl := tb_i 1660 (by decide +kernel)
theorem lkRX12_280 : Cond.methodLink RX12 280 yX12_holesOf ∈ lw_tbl := tb_i 1664 (by decide +kernel)
theorem lkRX12_283 : Cond.methodLink RX12 283 yX12_ofOne ∈ lw_tbl := tb_i 1656 (by decide +kernel)
theorem lkRX12_287 : Cond.methodLink RX12 287 yX12_two ∈ lw_tbl := tb_i 1672 (by decide +kernel)
theorem lkRX12_291 : Cond.methodLink RX12 291 yX12_isAsked ∈ lw_tbl := tb_i 1680 (by decide +kernel)
theorem lkRX12_295 : Cond.methodLink RX12 295 yX12_joined ∈ lw_tbl := tb_i 1683 (by decide +kernel)
theorem lkRX12_299 : Cond.methodLink RX12 299 yX12_summedUp ∈ lw_tbl := tb_i 1652 (by decide +kernel)
theorem lkRX12_302 : Cond.methodLink RX12 302 yX12_cut ∈ lw_tbl := tb_i 1686 (by decide +kernel)
theorem lkRX12_306 : Cond.methodLink RX12 306 yX12_heardBy ∈ lw_tbl := tb_i 1644 (by decide +kernel)
theorem lkRX12_309 : Cond.methodLink RX12 309 yX12_namePlace ∈ lw_tbl := tb_i 1636 (by decide +kernel)
theorem lkRX12_312 : Cond.methodLink RX12 312 yX12_nameChild ∈ lw_tbl := tb_i 1640 (by decide +kernel)
theorem lkRX12_315 : Cond.methodLink RX12 315 yX12_says ∈ lw_tbl := tb_i 1648 (by decide +kernel)
theorem lkRX12_319 : Cond.methodLink RX12 319 yX12_learnsOf ∈ lw_tbl := tb_i 1769 (by decide +kernel)
theorem lkRX12_322 : Cond.methodLink RX12 322 yX12_anew ∈ lw_tbl := tb_i 1693 (by decide +kernel)
theorem lkRX12_331 : Cond.methodLink RX12 331 yX12_isHole ∈ lw_tbl := tb_i 1616 (by decide +kernel)
theorem lkRX12_334 : Cond.methodLink RX12 334 yX12_blursOf ∈ lw_tbl := tb_i 1632 (by decide +kernel)
theorem lkRX12_337 : Cond.methodLink RX12 337 yX12_drawnBy ∈ lw_tbl := tb_i 1689 (by decide +kernel)
theorem lkRX12_340 : Cond.methodLink RX12 340 yX12_wearsOf ∈ lw_tbl := tb_i 1700 (by decide +kernel)
theorem lkRX12_346 : Cond.methodLink RX12 346 yX12_write ∈ lw_tbl := tb_i 1704 (by decide +kernel)
theorem dX12_text_0 : decode cX12_text 0 = .ok (.aload_n 0, 1) := by decide +kernel
theorem dX12_text_1 : decode cX12_text 1 = .ok (.getfield 7, 3) := by decide +kernel
theorem dX12_text_4 : decode cX12_text 4 = .ok (.iconst 2, 1) := by decide +kernel
theorem dX12_text_5 : decode cX12_text 5 = .ok (.iaload, 1) := by decide +kernel
theorem dX12_text_6 : decode cX12_text 6 = .ok (.iconst 4, 1) := by decide +kernel
theorem dX12_text_7 : decode cX12_text 7 = .ok (.if_icmp .ne 5, 3) := by decide +kernel
theorem dX12_text_10 : decode cX12_text 10 = .ok (.iconst (-1), 1) := by decide +kernel
theorem dX12_text_11 : decode cX12_text 11 = .ok (.ireturn, 1) := by decide +kernel
theorem dX12_text_12 : decode cX12_text 12 = .ok (.aload_n 0, 1) := by decide +kernel
theorem dX12_text_13 : decode cX12_text 13 = .ok (.aload_n 0, 1) := by decide +kernel
theorem dX12_text_14 : decode cX12_text 14 = .ok (.invokevirtual 261, 3) := by decide +kernel
theorem dX12_text_17 : decode cX12_text 17 = .ok (.putfield 22, 3) := by decide +kernel
theorem dX12_text_20 : decode cX12_text 20 = .ok (.aload_n 0, 1) := by decide +kernel
theorem dX12_text_21 : decode cX12_text 21 = .ok (.aload_n 0, 1) := by decide +kernel
theorem dX12_text_22 : decode cX12_text 22 = .ok (.getfield 22, 3) := by decide +kernel
theorem dX12_text_25 : decode cX12_text 25 = .ok (.ifCond .ne 7, 3) := by decide +kernel
theorem dX12_text_28 : decode cX12_text 28 = .ok (.iconst (-1), 1) := by decide +kernel
theorem dX12_text_29 : decode cX12_text 29 = .ok (.goto 7, 3) := by decide +kernel
theorem dX12_text_32 : decode cX12_text 32 = .ok (.aload_n 0, 1) := by decide +kernel
theorem dX12_text_33 : decode cX12_text 33 = .ok (.getfield 111, 3) := by decide +kernel
theorem dX12_text_36 : decode cX12_text 36 = .ok (.putfield 26, 3) := by decide +kernel
theorem dX12_text_39 : decode cX12_text 39 = .ok (.aload_n 0, 1) := by decide +kernel
theorem dX12_text_40 : decode cX12_text 40 = .ok (.iconst 0, 1) := by decide +kernel
theorem dX12_text_41 : decode cX12_text 41 = .ok (.putfield 97, 3) := by decide +kernel
theorem dX12_text_44 : decode cX12_text 44 = .ok (.aload_n 0, 1) := by decide +kernel
theorem dX12_text_45 : decode cX12_text 45 = .ok (.getfield 22, 3) := by decide +kernel
theorem dX12_text_48 : decode cX12_text 48 = .ok (.ifCond .eq 5, 3) := by decide +kernel
theorem dX12_text_51 : decode cX12_text 51 = .ok (.iconst (-1), 1) := by decide +kernel
theorem dX12_text_52 : decode cX12_text 52 = .ok (.ireturn, 1) := by decide +kernel
theorem dX12_text_53 : decode cX12_text 53 = .ok (.aload_n 0, 1) := by decide +kernel
theorem dX12_text_54 : decode cX12_text 54 = .ok (.getfield 7, 3) := by decide +kernel
theorem dX12_text_57 : decode cX12_text 57 = .ok (.iconst 2, 1) := by decide +kernel
theorem dX12_text_58 : decode cX12_text 58 = .ok (.dup2, 1) := by decide +kernel
theorem dX12_text_59 : decode cX12_text 59 = .ok (.iaload, 1) := by decide +kernel
theorem dX12_text_60 : decode cX12_text 60 = .ok (.iconst 1, 1) := by decide +kernel
theorem dX12_text_61 : decode cX12_text 61 = .ok (.iadd, 1) := by decide +kernel
theorem dX12_text_62 : decode cX12_text 62 = .ok (.iastore, 1) := by decide +kernel
theorem dX12_text_63 : decode cX12_text 63 = .ok (.aload_n 0, 1) := by decide +kernel
theorem dX12_text_64 : decode cX12_text 64 = .ok (.getfield 7, 3) := by decide +kernel
theorem dX12_text_67 : decode cX12_text 67 = .ok (.iconst 2, 1) := by decide +kernel
theorem dX12_text_68 : decode cX12_text 68 = .ok (.iaload, 1) := by decide +kernel
theorem dX12_text_69 : decode cX12_text 69 = .ok (.iconst 1, 1) := by decide +kernel
theorem dX12_text_70 : decode cX12_text 70 = .ok (.isub, 1) := by decide +kernel
theorem dX12_text_71 : decode cX12_text 71 = .ok (.ireturn, 1) := by decide +kernel
def m12_text : pMT := (yX12_text, cX12_text, 1, some .int)
theorem mo12_text : mOK m12_text 0 := ⟨tb_i 1451 (by decide +kernel), wi_RX12, ⟨wn_RX12.1, wn_RX12.2, by decide +kernel⟩, by decide, plainFor_of_name wp_RX12⟩
theorem mv12_text : mV m12_text := ⟨tb_i 1449 (by decide +kernel), tb_i 1450 (by decide +kernel)⟩
def f12_text_c36 (n : Nat) (O : (Nat → Nat → Option Nat)) (I : (Nat → Nat → Int32)) (L : (Nat → Nat → Int64)) (b0 : Nat) (t0 : Int32) (t1 : Nat) : Option (Int32 × (Nat → Nat → Int32) × (Nat → Nat → Int64)) := bl (sI I t1 6 t0) fun I1 => bl (sI I1 b0 4 (0 : Int32)) fun I2 => (if (I2 b0 5) = 0 then bl (sI I2 (rO O b0 0) 2 ((I2 (rO O b0 0) 2) + 1)) fun I5 => some (((I5 (rO O b0 0) 2) - 1), I5, L) else some (((-1) : Int32), I2, L))
set_option maxHeartbeats 4000000 in
set_option maxRecDepth 20000 in
theorem o12_text_c36 {g : pG} {Qx : Option Value → pW → Prop} {Z : pZ} {O : (Nat → Nat → Option Nat)} {n : Nat} {res : Int32 × (Nat → Nat → Int32) × (Nat → Nat → Int64)} (d : Nat) (hW : WT Z O) (hQ : Qx (some (.int res.1)) (Z, res.2.1, res.2.2, O)) (I : (Nat → Nat → Int32)) (L : (Nat → Nat → Int64)) (b0 : Nat) (t0 : Int32) (t1 : Nat) (hZ_b0 : Z[b0]? = some (12, 34)) (hZ_t1 : Z[t1]? = some (12, 34)) (h : f12_text_c36 n O I L b0 t0 t1 = some res) : Ok g (d + 14, RX12, cX12_text, 1, false, 0, 0, Z.length, pSl Z) Qx 36 [(0, .ref b0)] [.int t0, .ref t1] (Z, I, L, O) := by
  unfold f12_text_c36 at h
  obtain ⟨I1, eI1, h⟩ := blE h
  refine ok_putI2 (ci := 12) (k := 6) dX12_text_36 flRX12_26 rfl (Or.inl rfl) hZ_t1 (by decide) eI1 ?_
  refine ok_aload_n dX12_text_39 0 rfl ?_
  refine ok_iconst (v := 0) dX12_text_40 (by decide) ?_
  obtain ⟨I2, eI2, h⟩ := blE h
  refine ok_putI2 (ci := 12) (k := 4) dX12_text_41 flRX12_97 rfl (Or.inl rfl) hZ_b0 (by decide) eI2 ?_
  refine ok_aload_n dX12_text_44 0 rfl ?_
  refine ok_getI (ci := 12) (k := 5) dX12_text_45 flRX12_22 rfl hZ_b0 (by decide) ?_
  refine ok_if_eq (t := 53) dX12_text_48 (by decide) (fun hc3 => ?_) (fun hc3 => ?_)
  · have h := (if_pos hc3).symm.trans h
    refine ok_aload_n dX12_text_53 0 rfl ?_
    have hT4 : Z[(rO O b0 0)]? = some (13, 4371) := (wt_f (ci := 12) (k := 0) hW hZ_b0 rfl).2
    refine ok_getR (ci := 12) (k := 0) dX12_text_54 flRX12_7 rfl hW hZ_b0 (by decide) ?_
    refine ok_iconst (v := 2) dX12_text_57 (by decide) ?_
    refine ok_dup2 dX12_text_58 rfl rfl ?_
    refine ok_iald2 (N := 2) dX12_text_59 hT4 (by unfold vp_in; decide) (by decide) ?_
    refine ok_iconst (v := 1) dX12_text_60 (by decide) ?_
    refine ok_iadd dX12_text_61 ?_
    obtain ⟨I5, eI5, h⟩ := blE h
    refine ok_iast3 dX12_text_62 hT4 (by unfold vp_in; decide) (by decide) eI5 ?_
    refine ok_aload_n dX12_text_63 0 rfl ?_
    refine ok_getR (ci := 12) (k := 0) dX12_text_64 flRX12_7 rfl hW hZ_b0 (by decide) ?_
    refine ok_iconst (v := 2) dX12_text_67 (by decide) ?_
    refine ok_iald2 (N := 2) dX12_text_68 hT4 (by unfold vp_in; decide) (by decide) ?_
    refine ok_iconst (v := 1) dX12_text_69 (by decide) ?_
    refine ok_isub dX12_text_70 ?_
    cases h
    exact ok_iret dX12_text_71 hQ
  · have h := (if_neg hc3).symm.trans h
    refine ok_iconst (v := (-1)) dX12_text_51 (by decide) ?_
    cases h
    exact ok_iret dX12_text_52 hQ
def f12_text (n : Nat) (I : (Nat → Nat → Int32)) (L : (Nat → Nat → Int64)) (O : (Nat → Nat → Option Nat)) (a0 : Nat) : Option (Int32 × (Nat → Nat → Int32) × (Nat → Nat → Int64)) := (if (I (rO O a0 0) 2) = (4 : Int32) then some (((-1) : Int32), I, L) else (f12_readText n I L O a0).bind fun r3 => bl (sI r3.2.1 a0 5 r3.1) fun I5 => (if (I5 a0 5) = 0 then f12_text_c36 n O I5 r3.2.2 a0 (-1 : Int32) a0 else f12_text_c36 n O I5 r3.2.2 a0 (I5 a0 8) a0))
set_option maxHeartbeats 4000000 in
set_option maxRecDepth 20000 in
theorem o12_text {g : pG} {Qx : Option Value → pW → Prop} {Z : pZ} {I : (Nat → Nat → Int32)} {L : (Nat → Nat → Int64)} {O : (Nat → Nat → Option Nat)} {n : Nat} {a0 : Nat} {res : Int32 × (Nat → Nat → Int32) × (Nat → Nat → Int64)} (d : Nat) (hW : WT Z O) (hZ0 : Z[a0]? = some (12, 34)) (h : f12_text n I L O a0 = some res) (hQ : Qx (some (.int res.1)) (Z, res.2.1, res.2.2, O)) : Ok g (d + 14, RX12, cX12_text, 1, false, 0, 0, Z.length, pSl Z) Qx 0 [(0, .ref a0)] [] (Z, I, L, O) := by
  unfold f12_text at h
  refine ok_aload_n dX12_text_0 0 rfl ?_
  have hT1 : Z[(rO O a0 0)]? = some (13, 4371) := (wt_f (ci := 12) (k := 0) hW hZ0 rfl).2
  refine ok_getR (ci := 12) (k := 0) dX12_text_1 flRX12_7 rfl hW hZ0 (by decide) ?_
  refine ok_iconst (v := 2) dX12_text_4 (by decide) ?_
  refine ok_iald2 (N := 2) dX12_text_5 hT1 (by unfold vp_in; decide) (by decide) ?_
  refine ok_iconst (v := 4) dX12_text_6 (by decide) ?_
  refine ok_icmp_ne (t := 12) dX12_text_7 (by decide) (fun hc2 => ?_) (fun hc2 => ?_)
  · have h := (if_neg hc2).symm.trans h
    refine ok_aload_n dX12_text_12 0 rfl ?_
    refine ok_aload_n dX12_text_13 0 rfl ?_
    obtain ⟨r3, hr4, h⟩ := bd h
    refine ok_callV (d := ((d + 0) + 13)) (mt := m12_readText) (mc := 0) (ms := 0) (As := []) (r := [.ref a0]) dX12_text_14 mo12_readText mv12_readText lkRX12_261 rfl hZ0 (q := (RX12, TX12, 34)) rfl rfl rfl (Nat.le_of_ble_eq_true rfl) (by show _ + 1 ≤ d + _; omega) (Nat.le_refl _) (Nat.le_refl _) (pRt_mono ?_)
    refine k12_readText (d + 0) hW hZ0 hr4 ?_
    intro _
    show Ok g _ Qx 17 [(0, .ref a0)] [.int r3.1, .ref a0] (Z, r3.2.1, r3.2.2, O)
    obtain ⟨I5, eI5, h⟩ := blE h
    refine ok_putI2 (ci := 12) (k := 5) dX12_text_17 flRX12_22 rfl (Or.inl rfl) hZ0 (by decide) eI5 ?_
    refine ok_aload_n dX12_text_20 0 rfl ?_
    refine ok_aload_n dX12_text_21 0 rfl ?_
    refine ok_getI (ci := 12) (k := 5) dX12_text_22 flRX12_22 rfl hZ0 (by decide) ?_
    refine ok_if_ne (t := 32) dX12_text_25 (by decide) (fun hc6 => ?_) (fun hc6 => ?_)
    · have h := (if_neg hc6).symm.trans h
      refine ok_aload_n dX12_text_32 0 rfl ?_
      refine ok_getI (ci := 12) (k := 8) dX12_text_33 flRX12_111 rfl hZ0 (by decide) ?_
      refine ok_sub [0] rfl ?_
      exact o12_text_c36 d hW hQ  I5 r3.2.2 a0 (I5 a0 8) a0 hZ0 hZ0 h
    · have h := (if_pos hc6).symm.trans h
      refine ok_iconst (v := (-1)) dX12_text_28 (by decide) ?_
      refine ok_goto (t := 36) dX12_text_29 (by decide) ?_
      refine ok_sub [0] rfl ?_
      exact o12_text_c36 d hW hQ  I5 r3.2.2 a0 (-1 : Int32) a0 hZ0 hZ0 h
  · have h := (if_pos hc2).symm.trans h
    refine ok_iconst (v := (-1)) dX12_text_10 (by decide) ?_
    cases h
    exact ok_iret dX12_text_11 hQ
theorem k12_text {g : pG} {Q : Option Value → pW → Prop} {Z : pZ} {I : (Nat → Nat → Int32)} {L : (Nat → Nat → Int64)} {O : (Nat → Nat → Option Nat)} {n : Nat} {a0 : Nat} {res : Int32 × (Nat → Nat → Int32) × (Nat → Nat → Int64)} (d : Nat) (hW : WT Z O) (hZ0 : Z[a0]? = some (12, 34)) (h : f12_text n I L O a0 = some res) (hQ : Q (some (.int res.1)) (Z, res.2.1, res.2.2, O)) : CT g (d + 14) m12_text 0 0 [.ref a0] (Z, I, L, O) Q :=
  ct_of_ok (mt := m12_text) (ini := false) mo12_text.2.2.2.2 (fun h => by cases h) (Nat.le_of_ble_eq_true rfl) (o12_text d hW hZ0 h ⟨trivial, hQ, rfl, rfl⟩)
theorem dX12_fault_0 : decode cX12_fault 0 = .ok (.iload_n 1, 1) := by decide +kernel
theorem dX12_fault_1 : decode cX12_fault 1 = .ok (.ifCond .ne 10, 3) := by decide +kernel
theorem dX12_fault_4 : decode cX12_fault 4 = .ok (.aload_n 0, 1) := by decide +kernel
theorem dX12_fault_5 : decode cX12_fault 5 = .ok (.getfield 22, 3) := by decide +kernel
theorem dX12_fault_8 : decode cX12_fault 8 = .ok (.goto 16, 3) := by decide +kernel
theorem dX12_fault_11 : decode cX12_fault 11 = .ok (.iload_n 1, 1) := by decide +kernel
theorem dX12_fault_12 : decode cX12_fault 12 = .ok (.iconst 1, 1) := by decide +kernel
theorem dX12_fault_13 : decode cX12_fault 13 = .ok (.if_icmp .ne 10, 3) := by decide +kernel
theorem dX12_fault_16 : decode cX12_fault 16 = .ok (.aload_n 0, 1) := by decide +kernel
theorem dX12_fault_17 : decode cX12_fault 17 = .ok (.getfield 26, 3) := by decide +kernel
theorem dX12_fault_20 : decode cX12_fault 20 = .ok (.goto 4, 3) := by decide +kernel
theorem dX12_fault_23 : decode cX12_fault 23 = .ok (.iconst (-1), 1) := by decide +kernel
theorem dX12_fault_24 : decode cX12_fault 24 = .ok (.ireturn, 1) := by decide +kernel
def m12_fault : pMT := (yX12_fault, cX12_fault, 2, some .int)
theorem mo12_fault : mOK m12_fault 1 := ⟨tb_i 1591 (by decide +kernel), wi_RX12, ⟨wn_RX12.1, wn_RX12.2, by decide +kernel⟩, by decide, plainFor_of_name wp_RX12⟩
theorem mv12_fault : mV m12_fault := ⟨tb_i 1589 (by decide +kernel), tb_i 1590 (by decide +kernel)⟩
def f12_fault (I : (Nat → Nat → Int32)) (a0 : Nat) (x1 : Int32) : Option (Int32) := (if x1 = 0 then some ((I a0 5)) else (if x1 = (1 : Int32) then some ((I a0 6)) else some (((-1) : Int32))))
set_option maxHeartbeats 4000000 in
set_option maxRecDepth 20000 in
theorem o12_fault {g : pG} {Qx : Option Value → pW → Prop} {Z : pZ} {I : (Nat → Nat → Int32)} {L : (Nat → Nat → Int64)} {O : (Nat → Nat → Option Nat)} {a0 : Nat} {x1 : Int32} {res : Int32} (d : Nat) (hW : WT Z O) (hZ0 : Z[a0]? = some (12, 34)) (h : f12_fault I a0 x1 = some res) (hQ : Qx (some (.int res)) (Z, I, L, O)) : Ok g (d + 2, RX12, cX12_fault, 2, false, 0, 0, Z.length, pSl Z) Qx 0 [(0, .ref a0), (1, .int x1)] [] (Z, I, L, O) := by
  unfold f12_fault at h
  refine ok_iload_n dX12_fault_0 1 rfl ?_
  refine ok_if_ne (t := 11) dX12_fault_1 (by decide) (fun hc1 => ?_) (fun hc1 => ?_)
  · have h := (if_neg hc1).symm.trans h
    refine ok_iload_n dX12_fault_11 1 rfl ?_
    refine ok_iconst (v := 1) dX12_fault_12 (by decide) ?_
    refine ok_icmp_ne (t := 23) dX12_fault_13 (by decide) (fun hc2 => ?_) (fun hc2 => ?_)
    · have h := (if_neg hc2).symm.trans h
      refine ok_iconst (v := (-1)) dX12_fault_23 (by decide) ?_
      cases h
      exact ok_iret dX12_fault_24 hQ
    · have h := (if_pos hc2).symm.trans h
      refine ok_aload_n dX12_fault_16 0 rfl ?_
      refine ok_getI (ci := 12) (k := 6) dX12_fault_17 flRX12_26 rfl hZ0 (by decide) ?_
      refine ok_goto (t := 24) dX12_fault_20 (by decide) ?_
      cases h
      exact ok_iret dX12_fault_24 hQ
  · have h := (if_pos hc1).symm.trans h
    refine ok_aload_n dX12_fault_4 0 rfl ?_
    refine ok_getI (ci := 12) (k := 5) dX12_fault_5 flRX12_22 rfl hZ0 (by decide) ?_
    refine ok_goto (t := 24) dX12_fault_8 (by decide) ?_
    cases h
    exact ok_iret dX12_fault_24 hQ
theorem k12_fault {g : pG} {Q : Option Value → pW → Prop} {Z : pZ} {I : (Nat → Nat → Int32)} {L : (Nat → Nat → Int64)} {O : (Nat → Nat → Option Nat)} {a0 : Nat} {x1 : Int32} {res : Int32} (d : Nat) (hW : WT Z O) (hZ0 : Z[a0]? = some (12, 34)) (h : f12_fault I a0 x1 = some res) (hQ : Q (some (.int res)) (Z, I, L, O)) : CT g (d + 2) m12_fault 0 0 [.ref a0, .int x1] (Z, I, L, O) Q :=
  ct_of_ok (mt := m12_fault) (ini := false) mo12_fault.2.2.2.2 (fun h => by cases h) (Nat.le_of_ble_eq_true rfl) (o12_fault d hW hZ0 h ⟨trivial, hQ, rfl, rfl⟩)
theorem dX12_by_0 : decode cX12_by 0 = .ok (.iload_n 1, 1) := by decide +kernel
theorem dX12_by_1 : decode cX12_by 1 = .ok (.iconst (-1), 1) := by decide +kernel
theorem dX12_by_2 : decode cX12_by 2 = .ok (.aload_n 0, 1) := by decide +kernel
theorem dX12_by_3 : decode cX12_by 3 = .ok (.getfield 7, 3) := by decide +kernel
theorem dX12_by_6 : decode cX12_by 6 = .ok (.iconst 2, 1) := by decide +kernel
theorem dX12_by_7 : decode cX12_by 7 = .ok (.iaload, 1) := by decide +kernel
theorem dX12_by_8 : decode cX12_by 8 = .ok (.iconst 1, 1) := by decide +kernel
theorem dX12_by_9 : decode cX12_by 9 = .ok (.isub, 1) := by decide +kernel
theorem dX12_by_10 : decode cX12_by 10 = .ok (.invokestatic 75, 3) := by decide +kernel
theorem dX12_by_13 : decode cX12_by 13 = .ok (.ifCond .ne 5, 3) := by decide +kernel
theorem dX12_by_16 : decode cX12_by 16 = .ok (.iconst 0, 1) := by decide +kernel
theorem dX12_by_17 : decode cX12_by 17 = .ok (.ireturn, 1) := by decide +kernel
theorem dX12_by_18 : decode cX12_by 18 = .ok (.aload_n 0, 1) := by decide +kernel
theorem dX12_by_19 : decode cX12_by 19 = .ok (.getfield 7, 3) := by decide +kernel
theorem dX12_by_22 : decode cX12_by 22 = .ok (.iconst 3, 1) := by decide +kernel
theorem dX12_by_23 : decode cX12_by 23 = .ok (.iload_n 1, 1) := by decide +kernel
theorem dX12_by_24 : decode cX12_by 24 = .ok (.iastore, 1) := by decide +kernel
theorem dX12_by_25 : decode cX12_by 25 = .ok (.iconst 1, 1) := by decide +kernel
theorem dX12_by_26 : decode cX12_by 26 = .ok (.ireturn, 1) := by decide +kernel
def m12_by : pMT := (yX12_by, cX12_by, 2, some .boolean)
theorem mo12_by : mOK m12_by 1 := ⟨tb_i 1595 (by decide +kernel), wi_RX12, ⟨wn_RX12.1, wn_RX12.2, by decide +kernel⟩, by decide, plainFor_of_name wp_RX12⟩
theorem mv12_by : mV m12_by := ⟨tb_i 1593 (by decide +kernel), tb_i 1594 (by decide +kernel)⟩
def f12_by (I : (Nat → Nat → Int32)) (O : (Nat → Nat → Option Nat)) (a0 : Nat) (x1 : Int32) : Option (Int32 × (Nat → Nat → Int32)) := (f12_isIn x1 (-1 : Int32) ((I (rO O a0 0) 2) - 1)).bind fun r2 => (if r2 = 0 then some ((0 : Int32), I) else bl (sI I (rO O a0 0) 3 x1) fun I5 => some ((1 : Int32), I5))
set_option maxHeartbeats 4000000 in
set_option maxRecDepth 20000 in
theorem o12_by {g : pG} {Qx : Option Value → pW → Prop} {Z : pZ} {I : (Nat → Nat → Int32)} {L : (Nat → Nat → Int64)} {O : (Nat → Nat → Option Nat)} {a0 : Nat} {x1 : Int32} {res : Int32 × (Nat → Nat → Int32)} (d : Nat) (hW : WT Z O) (hZ0 : Z[a0]? = some (12, 34)) (h : f12_by I O a0 x1 = some res) (hQ : (res.1 = 0 ∨ res.1 = 1) → Qx (some (.int res.1)) (Z, res.2, L, O)) : Ok g (d + 3, RX12, cX12_by, 2, false, 0, 0, Z.length, pSl Z) Qx 0 [(0, .ref a0), (1, .int x1)] [] (Z, I, L, O) := by
  unfold f12_by at h
  refine ok_iload_n dX12_by_0 1 rfl ?_
  refine ok_iconst (v := (-1)) dX12_by_1 (by decide) ?_
  refine ok_aload_n dX12_by_2 0 rfl ?_
  have hT1 : Z[(rO O a0 0)]? = some (13, 4371) := (wt_f (ci := 12) (k := 0) hW hZ0 rfl).2
  refine ok_getR (ci := 12) (k := 0) dX12_by_3 flRX12_7 rfl hW hZ0 (by decide) ?_
  refine ok_iconst (v := 2) dX12_by_6 (by decide) ?_
  refine ok_iald2 (N := 2) dX12_by_7 hT1 (by unfold vp_in; decide) (by decide) ?_
  refine ok_iconst (v := 1) dX12_by_8 (by decide) ?_
  refine ok_isub dX12_by_9 ?_
  obtain ⟨r2, hr3, h⟩ := bd h
  refine ok_callS (d := ((d + 0) + 2)) (mt := m12_isIn) (mc := 0) (ms := 0) (As := [.int x1, .int (-1), .int ((I (rO O a0 0) 2) - 1)]) (r := []) dX12_by_10 mo12_isIn mv12_isIn lkRX12_75 rfl rfl (Nat.le_of_ble_eq_true rfl) (by show _ + 1 ≤ d + _; omega) (Nat.le_refl _) (Nat.le_refl _) (pRt_mono ?_)
  refine k12_isIn (d + 0) hW  hr3 ?_
  intro hbr2
  show Ok g _ Qx 13 [(0, .ref a0), (1, .int x1)] [.int r2] (Z, I, L, O)
  refine ok_if_ne (t := 18) dX12_by_13 (by decide) (fun hc4 => ?_) (fun hc4 => ?_)
  · have h := (if_neg hc4).symm.trans h
    refine ok_aload_n dX12_by_18 0 rfl ?_
    refine ok_getR (ci := 12) (k := 0) dX12_by_19 flRX12_7 rfl hW hZ0 (by decide) ?_
    refine ok_iconst (v := 3) dX12_by_22 (by decide) ?_
    refine ok_iload_n dX12_by_23 1 rfl ?_
    obtain ⟨I5, eI5, h⟩ := blE h
    refine ok_iast3 dX12_by_24 hT1 (by unfold vp_in; decide) (by decide) eI5 ?_
    refine ok_iconst (v := 1) dX12_by_25 (by decide) ?_
    cases h
    exact ok_iret dX12_by_26 (hQ (Or.inr rfl))
  · have h := (if_pos hc4).symm.trans h
    refine ok_iconst (v := 0) dX12_by_16 (by decide) ?_
    cases h
    exact ok_iret dX12_by_17 (hQ (Or.inl rfl))
theorem k12_by {g : pG} {Q : Option Value → pW → Prop} {Z : pZ} {I : (Nat → Nat → Int32)} {L : (Nat → Nat → Int64)} {O : (Nat → Nat → Option Nat)} {a0 : Nat} {x1 : Int32} {res : Int32 × (Nat → Nat → Int32)} (d : Nat) (hW : WT Z O) (hZ0 : Z[a0]? = some (12, 34)) (h : f12_by I O a0 x1 = some res) (hQ : Q (some (.int res.1)) (Z, res.2, L, O)) : CT g (d + 3) m12_by 0 0 [.ref a0, .int x1] (Z, I, L, O) Q :=
  ct_of_ok (mt := m12_by) (ini := false) mo12_by.2.2.2.2 (fun h => by cases h) (Nat.le_of_ble_eq_true rfl) (o12_by d hW hZ0 h (fun hb => ⟨hb, hQ, rfl, rfl⟩))
theorem dX12_clip_0 : decode cX12_clip 0 = .ok (.lload_n 0, 1) := by decide +kernel
theorem dX12_clip_1 : decode cX12_clip 1 = .ok (.ldc2_w 264, 3) := by decide +kernel
theorem dX12_clip_4 : decode cX12_clip 4 = .ok (.lcmp, 1) := by decide +kernel
theorem dX12_clip_5 : decode cX12_clip 5 = .ok (.ifCond .le 9, 3) := by decide +kernel
theorem dX12_clip_8 : decode cX12_clip 8 = .ok (.ldc2_w 264, 3) := by decide +kernel
theorem dX12_clip_11 : decode cX12_clip 11 = .ok (.goto 18, 3) := by decide +kernel
theorem dX12_clip_14 : decode cX12_clip 14 = .ok (.lload_n 0, 1) := by decide +kernel
theorem dX12_clip_15 : decode cX12_clip 15 = .ok (.ldc2_w 266, 3) := by decide +kernel
theorem dX12_clip_18 : decode cX12_clip 18 = .ok (.lcmp, 1) := by decide +kernel
theorem dX12_clip_19 : decode cX12_clip 19 = .ok (.ifCond .ge 9, 3) := by decide +kernel
theorem dX12_clip_22 : decode cX12_clip 22 = .ok (.ldc2_w 266, 3) := by decide +kernel
theorem dX12_clip_25 : decode cX12_clip 25 = .ok (.goto 4, 3) := by decide +kernel
theorem dX12_clip_28 : decode cX12_clip 28 = .ok (.lload_n 0, 1) := by decide +kernel
theorem dX12_clip_29 : decode cX12_clip 29 = .ok (.lreturn, 1) := by decide +kernel
def m12_clip : pMT := (yX12_clip, cX12_clip, 2, some .long)
theorem mo12_clip : mOK m12_clip 1 := ⟨tb_i 1677 (by decide +kernel), wi_RX12, ⟨wn_RX12.1, wn_RX12.2, by decide +kernel⟩, by decide, plainFor_of_name wp_RX12⟩
theorem mv12_clip : mS m12_clip := (tb_i 1676 (by decide +kernel) : Cond.static yX12_clip ∈ lw_tbl)
def f12_clip (x0 : Int64) : Option (Int64) := (if (lg_cmp x0 (1000000 : Int64)) ≤ 0 then (if 0 ≤ (lg_cmp x0 (-1000000 : Int64)) then some (x0) else some (((-1000000) : Int64))) else some ((1000000 : Int64)))
set_option maxHeartbeats 4000000 in
set_option maxRecDepth 20000 in
theorem o12_clip {g : pG} {Qx : Option Value → pW → Prop} {Z : pZ} {I : (Nat → Nat → Int32)} {L : (Nat → Nat → Int64)} {O : (Nat → Nat → Option Nat)} {x0 : Int64} {res : Int64} (d : Nat) (hW : WT Z O) (h : f12_clip x0 = some res) (hQ : Qx (some (.long res)) (Z, I, L, O)) : Ok g (d + 2, RX12, cX12_clip, 2, false, 0, 0, Z.length, pSl Z) Qx 0 [(0, .long x0)] [] (Z, I, L, O) := by
  unfold f12_clip at h
  refine ok_lload_n dX12_clip_0 0 rfl ?_
  refine ok_ldc2 (v := 1000000) dX12_clip_1 (tb_i (c := Cond.constantLong RX12 264 (1000000)) 1678 (by decide +kernel)) ?_
  refine ok_lcmp dX12_clip_4 ?_
  refine ok_if_le (t := 14) dX12_clip_5 (by decide) (fun hc1 => ?_) (fun hc1 => ?_)
  · have h := (if_pos hc1).symm.trans h
    refine ok_lload_n dX12_clip_14 0 rfl ?_
    refine ok_ldc2 (v := (-1000000)) dX12_clip_15 (tb_i (c := Cond.constantLong RX12 266 (-1000000)) 1679 (by decide +kernel)) ?_
    refine ok_lcmp dX12_clip_18 ?_
    refine ok_if_ge (t := 28) dX12_clip_19 (by decide) (fun hc2 => ?_) (fun hc2 => ?_)
    · have h := (if_pos hc2).symm.trans h
      refine ok_lload_n dX12_clip_28 0 rfl ?_
      cases h
      exact ok_lret dX12_clip_29 hQ
    · have h := (if_neg hc2).symm.trans h
      refine ok_ldc2 (v := (-1000000)) dX12_clip_22 (tb_i (c := Cond.constantLong RX12 266 (-1000000)) 1679 (by decide +kernel)) ?_
      refine ok_goto (t := 29) dX12_clip_25 (by decide) ?_
      cases h
      exact ok_lret dX12_clip_29 hQ
  · have h := (if_neg hc1).symm.trans h
    refine ok_ldc2 (v := 1000000) dX12_clip_8 (tb_i (c := Cond.constantLong RX12 264 (1000000)) 1678 (by decide +kernel)) ?_
    refine ok_goto (t := 29) dX12_clip_11 (by decide) ?_
    cases h
    exact ok_lret dX12_clip_29 hQ
theorem k12_clip {g : pG} {Q : Option Value → pW → Prop} {Z : pZ} {I : (Nat → Nat → Int32)} {L : (Nat → Nat → Int64)} {O : (Nat → Nat → Option Nat)} {x0 : Int64} {res : Int64} (d : Nat) (hW : WT Z O) (h : f12_clip x0 = some res) (hQ : Q (some (.long res)) (Z, I, L, O)) : CT g (d + 2) m12_clip 0 0 [.long x0] (Z, I, L, O) Q :=
  ct_of_ok (mt := m12_clip) (ini := false) mo12_clip.2.2.2.2 (fun h => by cases h) (Nat.le_of_ble_eq_true rfl) (o12_clip d hW  h ⟨trivial, hQ, rfl, rfl⟩)
theorem dX12_two_0 : decode cX12_two 0 = .ok (.iload_n 0, 1) := by decide +kernel
theorem dX12_two_1 : decode cX12_two 1 = .ok (.tableswitch 48 6 8 #[27, 34, 41], 27) := by decide +kernel
theorem dX12_two_28 : decode cX12_two 28 = .ok (.lload_n 1, 1) := by decide +kernel
theorem dX12_two_29 : decode cX12_two 29 = .ok (.lload_n 3, 1) := by decide +kernel
theorem dX12_two_30 : decode cX12_two 30 = .ok (.ladd, 1) := by decide +kernel
theorem dX12_two_31 : decode cX12_two 31 = .ok (.invokestatic 268, 3) := by decide +kernel
theorem dX12_two_34 : decode cX12_two 34 = .ok (.lreturn, 1) := by decide +kernel
theorem dX12_two_35 : decode cX12_two 35 = .ok (.lload_n 1, 1) := by decide +kernel
theorem dX12_two_36 : decode cX12_two 36 = .ok (.lload_n 3, 1) := by decide +kernel
theorem dX12_two_37 : decode cX12_two 37 = .ok (.lsub, 1) := by decide +kernel
theorem dX12_two_38 : decode cX12_two 38 = .ok (.invokestatic 268, 3) := by decide +kernel
theorem dX12_two_41 : decode cX12_two 41 = .ok (.lreturn, 1) := by decide +kernel
theorem dX12_two_42 : decode cX12_two 42 = .ok (.lload_n 1, 1) := by decide +kernel
theorem dX12_two_43 : decode cX12_two 43 = .ok (.lload_n 3, 1) := by decide +kernel
theorem dX12_two_44 : decode cX12_two 44 = .ok (.lmul, 1) := by decide +kernel
theorem dX12_two_45 : decode cX12_two 45 = .ok (.invokestatic 268, 3) := by decide +kernel
theorem dX12_two_48 : decode cX12_two 48 = .ok (.lreturn, 1) := by decide +kernel
theorem dX12_two_49 : decode cX12_two 49 = .ok (.lload_n 3, 1) := by decide +kernel
theorem dX12_two_50 : decode cX12_two 50 = .ok (.lconst 0, 1) := by decide +kernel
theorem dX12_two_51 : decode cX12_two 51 = .ok (.lcmp, 1) := by decide +kernel
theorem dX12_two_52 : decode cX12_two 52 = .ok (.ifCond .ne 7, 3) := by decide +kernel
theorem dX12_two_55 : decode cX12_two 55 = .ok (.lconst 0, 1) := by decide +kernel
theorem dX12_two_56 : decode cX12_two 56 = .ok (.goto 9, 3) := by decide +kernel
theorem dX12_two_59 : decode cX12_two 59 = .ok (.lload_n 1, 1) := by decide +kernel
theorem dX12_two_60 : decode cX12_two 60 = .ok (.lload_n 3, 1) := by decide +kernel
theorem dX12_two_61 : decode cX12_two 61 = .ok (.ldiv, 1) := by decide +kernel
theorem dX12_two_62 : decode cX12_two 62 = .ok (.invokestatic 268, 3) := by decide +kernel
theorem dX12_two_65 : decode cX12_two 65 = .ok (.lreturn, 1) := by decide +kernel
def m12_two : pMT := (yX12_two, cX12_two, 5, some .long)
theorem mo12_two : mOK m12_two 3 := ⟨tb_i 1674 (by decide +kernel), wi_RX12, ⟨wn_RX12.1, wn_RX12.2, by decide +kernel⟩, by decide, plainFor_of_name wp_RX12⟩
theorem mv12_two : mS m12_two := (tb_i 1673 (by decide +kernel) : Cond.static yX12_two ∈ lw_tbl)
def f12_two (x0 : Int32) (x1 : Int64) (x3 : Int64) : Option (Int64) := (if x0 = 6 then (f12_clip (x1 + x3)).bind fun r2 => some (r2) else (if x0 = 7 then (f12_clip (x1 - x3)).bind fun r5 => some (r5) else (if x0 = 8 then (f12_clip (x1 * x3)).bind fun r8 => some (r8) else (if (lg_cmp x3 (0 : Int64)) = 0 then some ((0 : Int64)) else if x3 = 0 then none else (f12_clip (x1 / x3)).bind fun r12 => some (r12)))))
set_option maxHeartbeats 4000000 in
set_option maxRecDepth 20000 in
theorem o12_two {g : pG} {Qx : Option Value → pW → Prop} {Z : pZ} {I : (Nat → Nat → Int32)} {L : (Nat → Nat → Int64)} {O : (Nat → Nat → Option Nat)} {x0 : Int32} {x1 : Int64} {x3 : Int64} {res : Int64} (d : Nat) (hW : WT Z O) (h : f12_two x0 x1 x3 = some res) (hQ : Qx (some (.long res)) (Z, I, L, O)) : Ok g (d + 3, RX12, cX12_two, 5, false, 0, 0, Z.length, pSl Z) Qx 0 [(0, .int x0), (1, .long x1), (3, .long x3)] [] (Z, I, L, O) := by
  unfold f12_two at h
  refine ok_iload_n dX12_two_0 0 rfl ?_
  by_cases hc1 : x0 = 6
  · have h := (if_pos hc1).symm.trans h
    refine ok_tabEq (t := 28) (off := 27) dX12_two_1 hc1 (by decide) (by decide) (by decide) (by decide) ?_
    refine ok_lload_n dX12_two_28 1 rfl ?_
    refine ok_lload_n dX12_two_29 2 rfl ?_
    refine ok_ladd dX12_two_30 ?_
    obtain ⟨r2, hr3, h⟩ := bd h
    refine ok_callS (d := ((d + 0) + 2)) (mt := m12_clip) (mc := 0) (ms := 0) (As := [.long (x1 + x3)]) (r := []) dX12_two_31 mo12_clip mv12_clip lkRX12_268 rfl rfl (Nat.le_of_ble_eq_true rfl) (by show _ + 1 ≤ d + _; omega) (Nat.le_refl _) (Nat.le_refl _) (pRt_mono ?_)
    refine k12_clip (d + 0) hW  hr3 ?_
    intro _
    show Ok g _ Qx 34 [(0, .int x0), (1, .long x1), (3, .long x3)] [.long r2] (Z, I, L, O)
    cases h
    exact ok_lret dX12_two_34 hQ
  · have h := (if_neg hc1).symm.trans h
    by_cases hc4 : x0 = 7
    · have h := (if_pos hc4).symm.trans h
      refine ok_tabEq (t := 35) (off := 34) dX12_two_1 hc4 (by decide) (by decide) (by decide) (by decide) ?_
      refine ok_lload_n dX12_two_35 1 rfl ?_
      refine ok_lload_n dX12_two_36 2 rfl ?_
      refine ok_lsub dX12_two_37 ?_
      obtain ⟨r5, hr6, h⟩ := bd h
      refine ok_callS (d := ((d + 0) + 2)) (mt := m12_clip) (mc := 0) (ms := 0) (As := [.long (x1 - x3)]) (r := []) dX12_two_38 mo12_clip mv12_clip lkRX12_268 rfl rfl (Nat.le_of_ble_eq_true rfl) (by show _ + 1 ≤ d + _; omega) (Nat.le_refl _) (Nat.le_refl _) (pRt_mono ?_)
      refine k12_clip (d + 0) hW  hr6 ?_
      intro _
      show Ok g _ Qx 41 [(0, .int x0), (1, .long x1), (3, .long x3)] [.long r5] (Z, I, L, O)
      cases h
      exact ok_lret dX12_two_41 hQ
    · have h := (if_neg hc4).symm.trans h
      by_cases hc7 : x0 = 8
      · have h := (if_pos hc7).symm.trans h
        refine ok_tabEq (t := 42) (off := 41) dX12_two_1 hc7 (by decide) (by decide) (by decide) (by decide) ?_
        refine ok_lload_n dX12_two_42 1 rfl ?_
        refine ok_lload_n dX12_two_43 2 rfl ?_
        refine ok_lmul dX12_two_44 ?_
        obtain ⟨r8, hr9, h⟩ := bd h
        refine ok_callS (d := ((d + 0) + 2)) (mt := m12_clip) (mc := 0) (ms := 0) (As := [.long (x1 * x3)]) (r := []) dX12_two_45 mo12_clip mv12_clip lkRX12_268 rfl rfl (Nat.le_of_ble_eq_true rfl) (by show _ + 1 ≤ d + _; omega) (Nat.le_refl _) (Nat.le_refl _) (pRt_mono ?_)
        refine k12_clip (d + 0) hW  hr9 ?_
        intro _
        show Ok g _ Qx 48 [(0, .int x0), (1, .long x1), (3, .long x3)] [.long r8] (Z, I, L, O)
        cases h
        exact ok_lret dX12_two_48 hQ
      · have h := (if_neg hc7).symm.trans h
        refine ok_tabOut (t := 49) dX12_two_1 (by have n6 := neI hc1 (a := 6) (by decide); have n7 := neI hc4 (a := 7) (by decide); have n8 := neI hc7 (a := 8) (by decide); omega) (by decide) ?_
        refine ok_lload_n dX12_two_49 2 rfl ?_
        refine ok_lconst (v := 0) dX12_two_50 (by decide) ?_
        refine ok_lcmp dX12_two_51 ?_
        refine ok_if_ne (t := 59) dX12_two_52 (by decide) (fun hc10 => ?_) (fun hc10 => ?_)
        · have h := (if_neg hc10).symm.trans h
          refine ok_lload_n dX12_two_59 1 rfl ?_
          refine ok_lload_n dX12_two_60 2 rfl ?_
          obtain ⟨hg11, h⟩ := gd h
          refine ok_ldiv dX12_two_61 hg11 ?_
          obtain ⟨r12, hr13, h⟩ := bd h
          refine ok_callS (d := ((d + 0) + 2)) (mt := m12_clip) (mc := 0) (ms := 0) (As := [.long (x1 / x3)]) (r := []) dX12_two_62 mo12_clip mv12_clip lkRX12_268 rfl rfl (Nat.le_of_ble_eq_true rfl) (by show _ + 1 ≤ d + _; omega) (Nat.le_refl _) (Nat.le_refl _) (pRt_mono ?_)
          refine k12_clip (d + 0) hW  hr13 ?_
          intro _
          show Ok g _ Qx 65 [(0, .int x0), (1, .long x1), (3, .long x3)] [.long r12] (Z, I, L, O)
          cases h
          exact ok_lret dX12_two_65 hQ
        · have h := (if_pos hc10).symm.trans h
          refine ok_lconst (v := 0) dX12_two_55 (by decide) ?_
          refine ok_goto (t := 65) dX12_two_56 (by decide) ?_
          cases h
          exact ok_lret dX12_two_65 hQ
theorem k12_two {g : pG} {Q : Option Value → pW → Prop} {Z : pZ} {I : (Nat → Nat → Int32)} {L : (Nat → Nat → Int64)} {O : (Nat → Nat → Option Nat)} {x0 : Int32} {x1 : Int64} {x3 : Int64} {res : Int64} (d : Nat) (hW : WT Z O) (h : f12_two x0 x1 x3 = some res) (hQ : Q (some (.long res)) (Z, I, L, O)) : CT g (d + 3) m12_two 0 0 [.int x0, .long x1, .long x3] (Z, I, L, O) Q :=
  ct_of_ok (mt := m12_two) (ini := false) mo12_two.2.2.2.2 (fun h => by cases h) (Nat.le_of_ble_eq_true rfl) (o12_two d hW  h ⟨trivial, hQ, rfl, rfl⟩)
theorem dX12_isAsked_0 : decode cX12_isAsked 0 = .ok (.iload_n 0, 1) := by decide +kernel
theorem dX12_isAsked_1 : decode cX12_isAsked 1 = .ok (.bipush 10, 2) := by decide +kernel
theorem dX12_isAsked_3 : decode cX12_isAsked 3 = .ok (.if_icmp .ne 17, 3) := by decide +kernel
theorem dX12_isAsked_6 : decode cX12_isAsked 6 = .ok (.lload_n 1, 1) := by decide +kernel
theorem dX12_isAsked_7 : decode cX12_isAsked 7 = .ok (.lload_n 3, 1) := by decide +kernel
theorem dX12_isAsked_8 : decode cX12_isAsked 8 = .ok (.lcmp, 1) := by decide +kernel
theorem dX12_isAsked_9 : decode cX12_isAsked 9 = .ok (.ifCond .ge 7, 3) := by decide +kernel
theorem dX12_isAsked_12 : decode cX12_isAsked 12 = .ok (.iconst 1, 1) := by decide +kernel
theorem dX12_isAsked_13 : decode cX12_isAsked 13 = .ok (.goto 98, 3) := by decide +kernel
theorem dX12_isAsked_16 : decode cX12_isAsked 16 = .ok (.iconst 0, 1) := by decide +kernel
theorem dX12_isAsked_17 : decode cX12_isAsked 17 = .ok (.goto 94, 3) := by decide +kernel
theorem dX12_isAsked_20 : decode cX12_isAsked 20 = .ok (.iload_n 0, 1) := by decide +kernel
theorem dX12_isAsked_21 : decode cX12_isAsked 21 = .ok (.bipush 11, 2) := by decide +kernel
theorem dX12_isAsked_23 : decode cX12_isAsked 23 = .ok (.if_icmp .ne 17, 3) := by decide +kernel
theorem dX12_isAsked_26 : decode cX12_isAsked 26 = .ok (.lload_n 1, 1) := by decide +kernel
theorem dX12_isAsked_27 : decode cX12_isAsked 27 = .ok (.lload_n 3, 1) := by decide +kernel
theorem dX12_isAsked_28 : decode cX12_isAsked 28 = .ok (.lcmp, 1) := by decide +kernel
theorem dX12_isAsked_29 : decode cX12_isAsked 29 = .ok (.ifCond .gt 7, 3) := by decide +kernel
theorem dX12_isAsked_32 : decode cX12_isAsked 32 = .ok (.iconst 1, 1) := by decide +kernel
theorem dX12_isAsked_33 : decode cX12_isAsked 33 = .ok (.goto 78, 3) := by decide +kernel
theorem dX12_isAsked_36 : decode cX12_isAsked 36 = .ok (.iconst 0, 1) := by decide +kernel
theorem dX12_isAsked_37 : decode cX12_isAsked 37 = .ok (.goto 74, 3) := by decide +kernel
theorem dX12_isAsked_40 : decode cX12_isAsked 40 = .ok (.iload_n 0, 1) := by decide +kernel
theorem dX12_isAsked_41 : decode cX12_isAsked 41 = .ok (.bipush 12, 2) := by decide +kernel
theorem dX12_isAsked_43 : decode cX12_isAsked 43 = .ok (.if_icmp .ne 17, 3) := by decide +kernel
theorem dX12_isAsked_46 : decode cX12_isAsked 46 = .ok (.lload_n 1, 1) := by decide +kernel
theorem dX12_isAsked_47 : decode cX12_isAsked 47 = .ok (.lload_n 3, 1) := by decide +kernel
theorem dX12_isAsked_48 : decode cX12_isAsked 48 = .ok (.lcmp, 1) := by decide +kernel
theorem dX12_isAsked_49 : decode cX12_isAsked 49 = .ok (.ifCond .le 7, 3) := by decide +kernel
theorem dX12_isAsked_52 : decode cX12_isAsked 52 = .ok (.iconst 1, 1) := by decide +kernel
theorem dX12_isAsked_53 : decode cX12_isAsked 53 = .ok (.goto 58, 3) := by decide +kernel
theorem dX12_isAsked_56 : decode cX12_isAsked 56 = .ok (.iconst 0, 1) := by decide +kernel
theorem dX12_isAsked_57 : decode cX12_isAsked 57 = .ok (.goto 54, 3) := by decide +kernel
theorem dX12_isAsked_60 : decode cX12_isAsked 60 = .ok (.iload_n 0, 1) := by decide +kernel
theorem dX12_isAsked_61 : decode cX12_isAsked 61 = .ok (.bipush 13, 2) := by decide +kernel
theorem dX12_isAsked_63 : decode cX12_isAsked 63 = .ok (.if_icmp .ne 17, 3) := by decide +kernel
theorem dX12_isAsked_66 : decode cX12_isAsked 66 = .ok (.lload_n 1, 1) := by decide +kernel
theorem dX12_isAsked_67 : decode cX12_isAsked 67 = .ok (.lload_n 3, 1) := by decide +kernel
theorem dX12_isAsked_68 : decode cX12_isAsked 68 = .ok (.lcmp, 1) := by decide +kernel
theorem dX12_isAsked_69 : decode cX12_isAsked 69 = .ok (.ifCond .lt 7, 3) := by decide +kernel
theorem dX12_isAsked_72 : decode cX12_isAsked 72 = .ok (.iconst 1, 1) := by decide +kernel
theorem dX12_isAsked_73 : decode cX12_isAsked 73 = .ok (.goto 38, 3) := by decide +kernel
theorem dX12_isAsked_76 : decode cX12_isAsked 76 = .ok (.iconst 0, 1) := by decide +kernel
theorem dX12_isAsked_77 : decode cX12_isAsked 77 = .ok (.goto 34, 3) := by decide +kernel
theorem dX12_isAsked_80 : decode cX12_isAsked 80 = .ok (.iload_n 0, 1) := by decide +kernel
theorem dX12_isAsked_81 : decode cX12_isAsked 81 = .ok (.bipush 14, 2) := by decide +kernel
theorem dX12_isAsked_83 : decode cX12_isAsked 83 = .ok (.if_icmp .ne 17, 3) := by decide +kernel
theorem dX12_isAsked_86 : decode cX12_isAsked 86 = .ok (.lload_n 1, 1) := by decide +kernel
theorem dX12_isAsked_87 : decode cX12_isAsked 87 = .ok (.lload_n 3, 1) := by decide +kernel
theorem dX12_isAsked_88 : decode cX12_isAsked 88 = .ok (.lcmp, 1) := by decide +kernel
theorem dX12_isAsked_89 : decode cX12_isAsked 89 = .ok (.ifCond .ne 7, 3) := by decide +kernel
theorem dX12_isAsked_92 : decode cX12_isAsked 92 = .ok (.iconst 1, 1) := by decide +kernel
theorem dX12_isAsked_93 : decode cX12_isAsked 93 = .ok (.goto 18, 3) := by decide +kernel
theorem dX12_isAsked_96 : decode cX12_isAsked 96 = .ok (.iconst 0, 1) := by decide +kernel
theorem dX12_isAsked_97 : decode cX12_isAsked 97 = .ok (.goto 14, 3) := by decide +kernel
theorem dX12_isAsked_100 : decode cX12_isAsked 100 = .ok (.lload_n 1, 1) := by decide +kernel
theorem dX12_isAsked_101 : decode cX12_isAsked 101 = .ok (.lload_n 3, 1) := by decide +kernel
theorem dX12_isAsked_102 : decode cX12_isAsked 102 = .ok (.lcmp, 1) := by decide +kernel
theorem dX12_isAsked_103 : decode cX12_isAsked 103 = .ok (.ifCond .eq 7, 3) := by decide +kernel
theorem dX12_isAsked_106 : decode cX12_isAsked 106 = .ok (.iconst 1, 1) := by decide +kernel
theorem dX12_isAsked_107 : decode cX12_isAsked 107 = .ok (.goto 4, 3) := by decide +kernel
theorem dX12_isAsked_110 : decode cX12_isAsked 110 = .ok (.iconst 0, 1) := by decide +kernel
theorem dX12_isAsked_111 : decode cX12_isAsked 111 = .ok (.ireturn, 1) := by decide +kernel
def m12_isAsked : pMT := (yX12_isAsked, cX12_isAsked, 5, some .boolean)
theorem mo12_isAsked : mOK m12_isAsked 3 := ⟨tb_i 1682 (by decide +kernel), wi_RX12, ⟨wn_RX12.1, wn_RX12.2, by decide +kernel⟩, by decide, plainFor_of_name wp_RX12⟩
theorem mv12_isAsked : mS m12_isAsked := (tb_i 1681 (by decide +kernel) : Cond.static yX12_isAsked ∈ lw_tbl)
def f12_isAsked (x0 : Int32) (x1 : Int64) (x3 : Int64) : Option (Int32) := (if x0 = (10 : Int32) then (if 0 ≤ (lg_cmp x1 x3) then some ((0 : Int32)) else some ((1 : Int32))) else (if x0 = (11 : Int32) then (if 0 < (lg_cmp x1 x3) then some ((0 : Int32)) else some ((1 : Int32))) else (if x0 = (12 : Int32) then (if (lg_cmp x1 x3) ≤ 0 then some ((0 : Int32)) else some ((1 : Int32))) else (if x0 = (13 : Int32) then (if (lg_cmp x1 x3) < 0 then some ((0 : Int32)) else some ((1 : Int32))) else (if x0 = (14 : Int32) then (if (lg_cmp x1 x3) = 0 then some ((1 : Int32)) else some ((0 : Int32))) else (if (lg_cmp x1 x3) = 0 then some ((0 : Int32)) else some ((1 : Int32))))))))
set_option maxHeartbeats 4000000 in
set_option maxRecDepth 20000 in
theorem o12_isAsked {g : pG} {Qx : Option Value → pW → Prop} {Z : pZ} {I : (Nat → Nat → Int32)} {L : (Nat → Nat → Int64)} {O : (Nat → Nat → Option Nat)} {x0 : Int32} {x1 : Int64} {x3 : Int64} {res : Int32} (d : Nat) (hW : WT Z O) (h : f12_isAsked x0 x1 x3 = some res) (hQ : (res = 0 ∨ res = 1) → Qx (some (.int res)) (Z, I, L, O)) : Ok g (d + 2, RX12, cX12_isAsked, 5, false, 0, 0, Z.length, pSl Z) Qx 0 [(0, .int x0), (1, .long x1), (3, .long x3)] [] (Z, I, L, O) := by
  unfold f12_isAsked at h
  refine ok_iload_n dX12_isAsked_0 0 rfl ?_
  refine ok_bipush (v := 10) dX12_isAsked_1 (by decide) ?_
  refine ok_icmp_ne (t := 20) dX12_isAsked_3 (by decide) (fun hc1 => ?_) (fun hc1 => ?_)
  · have h := (if_neg hc1).symm.trans h
    refine ok_iload_n dX12_isAsked_20 0 rfl ?_
    refine ok_bipush (v := 11) dX12_isAsked_21 (by decide) ?_
    refine ok_icmp_ne (t := 40) dX12_isAsked_23 (by decide) (fun hc2 => ?_) (fun hc2 => ?_)
    · have h := (if_neg hc2).symm.trans h
      refine ok_iload_n dX12_isAsked_40 0 rfl ?_
      refine ok_bipush (v := 12) dX12_isAsked_41 (by decide) ?_
      refine ok_icmp_ne (t := 60) dX12_isAsked_43 (by decide) (fun hc3 => ?_) (fun hc3 => ?_)
      · have h := (if_neg hc3).symm.trans h
        refine ok_iload_n dX12_isAsked_60 0 rfl ?_
        refine ok_bipush (v := 13) dX12_isAsked_61 (by decide) ?_
        refine ok_icmp_ne (t := 80) dX12_isAsked_63 (by decide) (fun hc4 => ?_) (fun hc4 => ?_)
        · have h := (if_neg hc4).symm.trans h
          refine ok_iload_n dX12_isAsked_80 0 rfl ?_
          refine ok_bipush (v := 14) dX12_isAsked_81 (by decide) ?_
          refine ok_icmp_ne (t := 100) dX12_isAsked_83 (by decide) (fun hc5 => ?_) (fun hc5 => ?_)
          · have h := (if_neg hc5).symm.trans h
            refine ok_lload_n dX12_isAsked_100 1 rfl ?_
            refine ok_lload_n dX12_isAsked_101 2 rfl ?_
            refine ok_lcmp dX12_isAsked_102 ?_
            refine ok_if_eq (t := 110) dX12_isAsked_103 (by decide) (fun hc6 => ?_) (fun hc6 => ?_)
            · have h := (if_pos hc6).symm.trans h
              refine ok_iconst (v := 0) dX12_isAsked_110 (by decide) ?_
              cases h
              exact ok_iret dX12_isAsked_111 (hQ (Or.inl rfl))
            · have h := (if_neg hc6).symm.trans h
              refine ok_iconst (v := 1) dX12_isAsked_106 (by decide) ?_
              refine ok_goto (t := 111) dX12_isAsked_107 (by decide) ?_
              cases h
              exact ok_iret dX12_isAsked_111 (hQ (Or.inr rfl))
          · have h := (if_pos hc5).symm.trans h
            refine ok_lload_n dX12_isAsked_86 1 rfl ?_
            refine ok_lload_n dX12_isAsked_87 2 rfl ?_
            refine ok_lcmp dX12_isAsked_88 ?_
            refine ok_if_ne (t := 96) dX12_isAsked_89 (by decide) (fun hc7 => ?_) (fun hc7 => ?_)
            · have h := (if_neg hc7).symm.trans h
              refine ok_iconst (v := 0) dX12_isAsked_96 (by decide) ?_
              refine ok_goto (t := 111) dX12_isAsked_97 (by decide) ?_
              cases h
              exact ok_iret dX12_isAsked_111 (hQ (Or.inl rfl))
            · have h := (if_pos hc7).symm.trans h
              refine ok_iconst (v := 1) dX12_isAsked_92 (by decide) ?_
              refine ok_goto (t := 111) dX12_isAsked_93 (by decide) ?_
              cases h
              exact ok_iret dX12_isAsked_111 (hQ (Or.inr rfl))
        · have h := (if_pos hc4).symm.trans h
          refine ok_lload_n dX12_isAsked_66 1 rfl ?_
          refine ok_lload_n dX12_isAsked_67 2 rfl ?_
          refine ok_lcmp dX12_isAsked_68 ?_
          refine ok_if_lt (t := 76) dX12_isAsked_69 (by decide) (fun hc8 => ?_) (fun hc8 => ?_)
          · have h := (if_pos hc8).symm.trans h
            refine ok_iconst (v := 0) dX12_isAsked_76 (by decide) ?_
            refine ok_goto (t := 111) dX12_isAsked_77 (by decide) ?_
            cases h
            exact ok_iret dX12_isAsked_111 (hQ (Or.inl rfl))
          · have h := (if_neg hc8).symm.trans h
            refine ok_iconst (v := 1) dX12_isAsked_72 (by decide) ?_
            refine ok_goto (t := 111) dX12_isAsked_73 (by decide) ?_
            cases h
            exact ok_iret dX12_isAsked_111 (hQ (Or.inr rfl))
      · have h := (if_pos hc3).symm.trans h
        refine ok_lload_n dX12_isAsked_46 1 rfl ?_
        refine ok_lload_n dX12_isAsked_47 2 rfl ?_
        refine ok_lcmp dX12_isAsked_48 ?_
        refine ok_if_le (t := 56) dX12_isAsked_49 (by decide) (fun hc9 => ?_) (fun hc9 => ?_)
        · have h := (if_pos hc9).symm.trans h
          refine ok_iconst (v := 0) dX12_isAsked_56 (by decide) ?_
          refine ok_goto (t := 111) dX12_isAsked_57 (by decide) ?_
          cases h
          exact ok_iret dX12_isAsked_111 (hQ (Or.inl rfl))
        · have h := (if_neg hc9).symm.trans h
          refine ok_iconst (v := 1) dX12_isAsked_52 (by decide) ?_
          refine ok_goto (t := 111) dX12_isAsked_53 (by decide) ?_
          cases h
          exact ok_iret dX12_isAsked_111 (hQ (Or.inr rfl))
    · have h := (if_pos hc2).symm.trans h
      refine ok_lload_n dX12_isAsked_26 1 rfl ?_
      refine ok_lload_n dX12_isAsked_27 2 rfl ?_
      refine ok_lcmp dX12_isAsked_28 ?_
      refine ok_if_gt (t := 36) dX12_isAsked_29 (by decide) (fun hc10 => ?_) (fun hc10 => ?_)
      · have h := (if_pos hc10).symm.trans h
        refine ok_iconst (v := 0) dX12_isAsked_36 (by decide) ?_
        refine ok_goto (t := 111) dX12_isAsked_37 (by decide) ?_
        cases h
        exact ok_iret dX12_isAsked_111 (hQ (Or.inl rfl))
      · have h := (if_neg hc10).symm.trans h
        refine ok_iconst (v := 1) dX12_isAsked_32 (by decide) ?_
        refine ok_goto (t := 111) dX12_isAsked_33 (by decide) ?_
        cases h
        exact ok_iret dX12_isAsked_111 (hQ (Or.inr rfl))
  · have h := (if_pos hc1).symm.trans h
    refine ok_lload_n dX12_isAsked_6 1 rfl ?_
    refine ok_lload_n dX12_isAsked_7 2 rfl ?_
    refine ok_lcmp dX12_isAsked_8 ?_
    refine ok_if_ge (t := 16) dX12_isAsked_9 (by decide) (fun hc11 => ?_) (fun hc11 => ?_)
    · have h := (if_pos hc11).symm.trans h
      refine ok_iconst (v := 0) dX12_isAsked_16 (by decide) ?_
      refine ok_goto (t := 111) dX12_isAsked_17 (by decide) ?_
      cases h
      exact ok_iret dX12_isAsked_111 (hQ (Or.inl rfl))
    · have h := (if_neg hc11).symm.trans h
      refine ok_iconst (v := 1) dX12_isAsked_12 (by decide) ?_
      refine ok_goto (t := 111) dX12_isAsked_13 (by decide) ?_
      cases h
      exact ok_iret dX12_isAsked_111 (hQ (Or.inr rfl))
theorem k12_isAsked {g : pG} {Q : Option Value → pW → Prop} {Z : pZ} {I : (Nat → Nat → Int32)} {L : (Nat → Nat → Int64)} {O : (Nat → Nat → Option Nat)} {x0 : Int32} {x1 : Int64} {x3 : Int64} {res : Int32} (d : Nat) (hW : WT Z O) (h : f12_isAsked x0 x1 x3 = some res) (hQ : Q (some (.int res)) (Z, I, L, O)) : CT g (d + 2) m12_isAsked 0 0 [.int x0, .long x1, .long x3] (Z, I, L, O) Q :=
  ct_of_ok (mt := m12_isAsked) (ini := false) mo12_isAsked.2.2.2.2 (fun h => by cases h) (Nat.le_of_ble_eq_true rfl) (o12_isAsked d hW  h (fun hb => ⟨hb, hQ, rfl, rfl⟩))
theorem dX12_holesIn_0 : decode cX12_holesIn 0 = .ok (.iconst 0, 1) := by decide +kernel
theorem dX12_holesIn_1 : decode cX12_holesIn 1 = .ok (.istore_n 2, 1) := by decide +kernel
theorem dX12_holesIn_2 : decode cX12_holesIn 2 = .ok (.iconst 0, 1) := by decide +kernel
theorem dX12_holesIn_3 : decode cX12_holesIn 3 = .ok (.istore_n 3, 1) := by decide +kernel
theorem dX12_holesIn_4 : decode cX12_holesIn 4 = .ok (.iload_n 3, 1) := by decide +kernel
theorem dX12_holesIn_5 : decode cX12_holesIn 5 = .ok (.aload_n 0, 1) := by decide +kernel
theorem dX12_holesIn_6 : decode cX12_holesIn 6 = .ok (.getfield 7, 3) := by decide +kernel
theorem dX12_holesIn_9 : decode cX12_holesIn 9 = .ok (.bipush 114, 2) := by decide +kernel
theorem dX12_holesIn_11 : decode cX12_holesIn 11 = .ok (.iload_n 1, 1) := by decide +kernel
theorem dX12_holesIn_12 : decode cX12_holesIn 12 = .ok (.iadd, 1) := by decide +kernel
theorem dX12_holesIn_13 : decode cX12_holesIn 13 = .ok (.iaload, 1) := by decide +kernel
theorem dX12_holesIn_14 : decode cX12_holesIn 14 = .ok (.if_icmp .ge 26, 3) := by decide +kernel
theorem dX12_holesIn_17 : decode cX12_holesIn 17 = .ok (.iload_n 2, 1) := by decide +kernel
theorem dX12_holesIn_18 : decode cX12_holesIn 18 = .ok (.aload_n 0, 1) := by decide +kernel
theorem dX12_holesIn_19 : decode cX12_holesIn 19 = .ok (.iload_n 1, 1) := by decide +kernel
theorem dX12_holesIn_20 : decode cX12_holesIn 20 = .ok (.iload_n 3, 1) := by decide +kernel
theorem dX12_holesIn_21 : decode cX12_holesIn 21 = .ok (.invokevirtual 87, 3) := by decide +kernel
theorem dX12_holesIn_24 : decode cX12_holesIn 24 = .ok (.ifCond .le 7, 3) := by decide +kernel
theorem dX12_holesIn_27 : decode cX12_holesIn 27 = .ok (.iconst 1, 1) := by decide +kernel
theorem dX12_holesIn_28 : decode cX12_holesIn 28 = .ok (.goto 4, 3) := by decide +kernel
theorem dX12_holesIn_31 : decode cX12_holesIn 31 = .ok (.iconst 0, 1) := by decide +kernel
theorem dX12_holesIn_32 : decode cX12_holesIn 32 = .ok (.iadd, 1) := by decide +kernel
theorem dX12_holesIn_33 : decode cX12_holesIn 33 = .ok (.istore_n 2, 1) := by decide +kernel
theorem dX12_holesIn_34 : decode cX12_holesIn 34 = .ok (.iinc 3 1, 3) := by decide +kernel
theorem dX12_holesIn_37 : decode cX12_holesIn 37 = .ok (.goto (-33), 3) := by decide +kernel
theorem dX12_holesIn_40 : decode cX12_holesIn 40 = .ok (.iload_n 2, 1) := by decide +kernel
theorem dX12_holesIn_41 : decode cX12_holesIn 41 = .ok (.ireturn, 1) := by decide +kernel
def m12_holesIn : pMT := (yX12_holesIn, cX12_holesIn, 4, some .int)
theorem mo12_holesIn : mOK m12_holesIn 1 := ⟨tb_i 1671 (by decide +kernel), wi_RX12, ⟨wn_RX12.1, wn_RX12.2, by decide +kernel⟩, by decide, plainFor_of_name wp_RX12⟩
theorem mv12_holesIn : mV m12_holesIn := ⟨tb_i 1670 (by decide +kernel), tb_p 102 (by decide +kernel)⟩
def f12_holesIn_c4 (n : Nat) (I : (Nat → Nat → Int32)) (O : (Nat → Nat → Option Nat)) : Nat → Nat → Int32 → Int32 → Int32 → Option (Int32)
  | 0, _, _, _, _ => none
  | m + 1, b0, y1, y2, y3 => (if ((114 : Int32) + y1) < 0 ∨ 4371 ≤ ((114 : Int32) + y1).toNatClampNeg then none else (if (I (rO O b0 0) ((114 : Int32) + y1).toNatClampNeg) ≤ y3 then some (y2) else (f12_keyOf I O b0 y1 y3).bind fun r4 => (if r4 ≤ 0 then f12_holesIn_c4 n I O m b0 y1 (y2 + 0) (y3 + 1) else f12_holesIn_c4 n I O m b0 y1 (y2 + 1) (y3 + 1))))
set_option maxHeartbeats 4000000 in
set_option maxRecDepth 20000 in
theorem o12_holesIn_c4 {g : pG} {Qx : Option Value → pW → Prop} {Z : pZ} {I : (Nat → Nat → Int32)} {L : (Nat → Nat → Int64)} {O : (Nat → Nat → Option Nat)} {n : Nat} {res : Int32} (d : Nat) (hW : WT Z O) (hQ : Qx (some (.int res)) (Z, I, L, O)) : ∀ (m : Nat) (b0 : Nat) (y1 : Int32) (y2 : Int32) (y3 : Int32), (Z[b0]? = some (12, 34)) → f12_holesIn_c4 n I O m b0 y1 y2 y3 = some res → Ok g (d + 3, RX12, cX12_holesIn, 4, false, 0, 0, Z.length, pSl Z) Qx 4 [(0, .ref b0), (1, .int y1), (2, .int y2), (3, .int y3)] [] (Z, I, L, O) := by
  intro m
  induction m with
  | zero => intro b0 y1 y2 y3 hZ_b0 h; rw [f12_holesIn_c4] at h; cases h
  | succ m ih =>
    intro b0 y1 y2 y3 hZ_b0 h
    rw [f12_holesIn_c4] at h
    refine ok_iload_n dX12_holesIn_4 3 rfl ?_
    refine ok_aload_n dX12_holesIn_5 0 rfl ?_
    have hT1 : Z[(rO O b0 0)]? = some (13, 4371) := (wt_f (ci := 12) (k := 0) hW hZ_b0 rfl).2
    refine ok_getR (ci := 12) (k := 0) dX12_holesIn_6 flRX12_7 rfl hW hZ_b0 (by decide) ?_
    refine ok_bipush (v := 114) dX12_holesIn_9 (by decide) ?_
    refine ok_iload_n dX12_holesIn_11 1 rfl ?_
    refine ok_iadd dX12_holesIn_12 ?_
    obtain ⟨hg2, h⟩ := gd h
    refine ok_iald2 (N := ((114 : Int32) + y1).toNatClampNeg) dX12_holesIn_13 hT1 hg2 rfl ?_
    refine ok_icmp_ge (t := 40) dX12_holesIn_14 (by decide) (fun hc3 => ?_) (fun hc3 => ?_)
    · have h := (if_pos hc3).symm.trans h
      refine ok_iload_n dX12_holesIn_40 2 rfl ?_
      cases h
      exact ok_iret dX12_holesIn_41 hQ
    · have h := (if_neg hc3).symm.trans h
      refine ok_iload_n dX12_holesIn_17 2 rfl ?_
      refine ok_aload_n dX12_holesIn_18 0 rfl ?_
      refine ok_iload_n dX12_holesIn_19 1 rfl ?_
      refine ok_iload_n dX12_holesIn_20 3 rfl ?_
      obtain ⟨r4, hr5, h⟩ := bd h
      refine ok_callV (d := ((d + 0) + 2)) (mt := m12_keyOf) (mc := 0) (ms := 0) (As := [.int y1, .int y3]) (r := [.int y2]) dX12_holesIn_21 mo12_keyOf mv12_keyOf lkRX12_87 rfl hZ_b0 (q := (RX12, TX12, 34)) rfl rfl rfl (Nat.le_of_ble_eq_true rfl) (by show _ + 1 ≤ d + _; omega) (Nat.le_refl _) (Nat.le_refl _) (pRt_mono ?_)
      refine k12_keyOf (d + 0) hW hZ_b0 hr5 ?_
      intro _
      show Ok g _ Qx 24 [(0, .ref b0), (1, .int y1), (2, .int y2), (3, .int y3)] [.int r4, .int y2] (Z, I, L, O)
      refine ok_if_le (t := 31) dX12_holesIn_24 (by decide) (fun hc6 => ?_) (fun hc6 => ?_)
      · have h := (if_pos hc6).symm.trans h
        refine ok_iconst (v := 0) dX12_holesIn_31 (by decide) ?_
        refine ok_iadd dX12_holesIn_32 ?_
        refine ok_istore_n (l' := [(2, .int (y2 + 0)), (0, .ref b0), (1, .int y1), (3, .int y3)]) dX12_holesIn_33 rfl (Nat.le_of_ble_eq_true rfl) rfl ?_
        refine ok_iinc (u := (y3 + 1)) (l' := [(3, .int (y3 + 1)), (2, .int (y2 + 0)), (0, .ref b0), (1, .int y1)]) dX12_holesIn_34 3 rfl rfl (Nat.le_of_ble_eq_true rfl) rfl ?_
        refine ok_goto (t := 4) dX12_holesIn_37 (by decide) ?_
        refine ok_sub [2, 3, 1, 0] rfl ?_
        exact ih b0 y1 (y2 + 0) (y3 + 1) hZ_b0 h
      · have h := (if_neg hc6).symm.trans h
        refine ok_iconst (v := 1) dX12_holesIn_27 (by decide) ?_
        refine ok_goto (t := 32) dX12_holesIn_28 (by decide) ?_
        refine ok_iadd dX12_holesIn_32 ?_
        refine ok_istore_n (l' := [(2, .int (y2 + 1)), (0, .ref b0), (1, .int y1), (3, .int y3)]) dX12_holesIn_33 rfl (Nat.le_of_ble_eq_true rfl) rfl ?_
        refine ok_iinc (u := (y3 + 1)) (l' := [(3, .int (y3 + 1)), (2, .int (y2 + 1)), (0, .ref b0), (1, .int y1)]) dX12_holesIn_34 3 rfl rfl (Nat.le_of_ble_eq_true rfl) rfl ?_
        refine ok_goto (t := 4) dX12_holesIn_37 (by decide) ?_
        refine ok_sub [2, 3, 1, 0] rfl ?_
        exact ih b0 y1 (y2 + 1) (y3 + 1) hZ_b0 h
def f12_holesIn (n : Nat) (I : (Nat → Nat → Int32)) (O : (Nat → Nat → Option Nat)) (a0 : Nat) (x1 : Int32) : Option (Int32) := f12_holesIn_c4 n I O n a0 x1 (0 : Int32) (0 : Int32)
set_option maxHeartbeats 4000000 in
set_option maxRecDepth 20000 in
theorem o12_holesIn {g : pG} {Qx : Option Value → pW → Prop} {Z : pZ} {I : (Nat → Nat → Int32)} {L : (Nat → Nat → Int64)} {O : (Nat → Nat → Option Nat)} {n : Nat} {a0 : Nat} {x1 : Int32} {res : Int32} (d : Nat) (hW : WT Z O) (hZ0 : Z[a0]? = some (12, 34)) (h : f12_holesIn n I O a0 x1 = some res) (hQ : Qx (some (.int res)) (Z, I, L, O)) : Ok g (d + 3, RX12, cX12_holesIn, 4, false, 0, 0, Z.length, pSl Z) Qx 0 [(0, .ref a0), (1, .int x1)] [] (Z, I, L, O) := by
  unfold f12_holesIn at h
  refine ok_iconst (v := 0) dX12_holesIn_0 (by decide) ?_
  refine ok_istore_n (l' := [(2, .int 0), (0, .ref a0), (1, .int x1)]) dX12_holesIn_1 rfl (Nat.le_of_ble_eq_true rfl) rfl ?_
  refine ok_iconst (v := 0) dX12_holesIn_2 (by decide) ?_
  refine ok_istore_n (l' := [(3, .int 0), (2, .int 0), (0, .ref a0), (1, .int x1)]) dX12_holesIn_3 rfl (Nat.le_of_ble_eq_true rfl) rfl ?_
  refine ok_sub [2, 3, 1, 0] rfl ?_
  exact o12_holesIn_c4 d hW hQ  n a0 x1 (0 : Int32) (0 : Int32) hZ0 h
theorem k12_holesIn {g : pG} {Q : Option Value → pW → Prop} {Z : pZ} {I : (Nat → Nat → Int32)} {L : (Nat → Nat → Int64)} {O : (Nat → Nat → Option Nat)} {n : Nat} {a0 : Nat} {x1 : Int32} {res : Int32} (d : Nat) (hW : WT Z O) (hZ0 : Z[a0]? = some (12, 34)) (h : f12_holesIn n I O a0 x1 = some res) (hQ : Q (some (.int res)) (Z, I, L, O)) : CT g (d + 3) m12_holesIn 0 0 [.ref a0, .int x1] (Z, I, L, O) Q :=
  ct_of_ok (mt := m12_holesIn) (ini := false) mo12_holesIn.2.2.2.2 (fun h => by cases h) (Nat.le_of_ble_eq_true rfl) (o12_holesIn d hW hZ0 h ⟨trivial, hQ, rfl, rfl⟩)
theorem dX12_holesOf_0 : decode cX12_holesOf 0 = .ok (.lload_n 1, 1) := by decide +kernel
theorem dX12_holesOf_1 : decode cX12_holesOf 1 = .ok (.lconst 0, 1) := by decide +kernel
theorem dX12_holesOf_2 : decode cX12_holesOf 2 = .ok (.lcmp, 1) := by decide +kernel
theorem dX12_holesOf_3 : decode cX12_holesOf 3 = .ok (.ifCond .lt 25, 3) := by decide +kernel
theorem dX12_holesOf_6 : decode cX12_holesOf 6 = .ok (.lload_n 1, 1) := by decide +kernel
theorem dX12_holesOf_7 : decode cX12_holesOf 7 = .ok (.aload_n 0, 1) := by decide +kernel
theorem dX12_holesOf_8 : decode cX12_holesOf 8 = .ok (.getfield 7, 3) := by decide +kernel
theorem dX12_holesOf_11 : decode cX12_holesOf 11 = .ok (.iconst 0, 1) := by decide +kernel
theorem dX12_holesOf_12 : decode cX12_holesOf 12 = .ok (.iaload, 1) := by decide +kernel
theorem dX12_holesOf_13 : decode cX12_holesOf 13 = .ok (.i2l, 1) := by decide +kernel
theorem dX12_holesOf_14 : decode cX12_holesOf 14 = .ok (.lcmp, 1) := by decide +kernel
theorem dX12_holesOf_15 : decode cX12_holesOf 15 = .ok (.ifCond .ge 13, 3) := by decide +kernel
theorem dX12_holesOf_18 : decode cX12_holesOf 18 = .ok (.aload_n 0, 1) := by decide +kernel
theorem dX12_holesOf_19 : decode cX12_holesOf 19 = .ok (.lload_n 1, 1) := by decide +kernel
theorem dX12_holesOf_20 : decode cX12_holesOf 20 = .ok (.l2i, 1) := by decide +kernel
theorem dX12_holesOf_21 : decode cX12_holesOf 21 = .ok (.invokevirtual 272, 3) := by decide +kernel
theorem dX12_holesOf_24 : decode cX12_holesOf 24 = .ok (.i2l, 1) := by decide +kernel
theorem dX12_holesOf_25 : decode cX12_holesOf 25 = .ok (.goto 4, 3) := by decide +kernel
theorem dX12_holesOf_28 : decode cX12_holesOf 28 = .ok (.lconst 0, 1) := by decide +kernel
theorem dX12_holesOf_29 : decode cX12_holesOf 29 = .ok (.lreturn, 1) := by decide +kernel
def m12_holesOf : pMT := (yX12_holesOf, cX12_holesOf, 3, some .long)
theorem mo12_holesOf : mOK m12_holesOf 1 := ⟨tb_i 1667 (by decide +kernel), wi_RX12, ⟨wn_RX12.1, wn_RX12.2, by decide +kernel⟩, by decide, plainFor_of_name wp_RX12⟩
theorem mv12_holesOf : mV m12_holesOf := ⟨tb_i 1666 (by decide +kernel), tb_p 101 (by decide +kernel)⟩
def f12_holesOf (n : Nat) (I : (Nat → Nat → Int32)) (O : (Nat → Nat → Option Nat)) (a0 : Nat) (x1 : Int64) : Option (Int64) := (if (lg_cmp x1 (0 : Int64)) < 0 then some ((0 : Int64)) else (if 0 ≤ (lg_cmp x1 (I (rO O a0 0) 0).toInt64) then some ((0 : Int64)) else (f12_holesIn n I O a0 x1.toInt32).bind fun r4 => some (r4.toInt64)))
set_option maxHeartbeats 4000000 in
set_option maxRecDepth 20000 in
theorem o12_holesOf {g : pG} {Qx : Option Value → pW → Prop} {Z : pZ} {I : (Nat → Nat → Int32)} {L : (Nat → Nat → Int64)} {O : (Nat → Nat → Option Nat)} {n : Nat} {a0 : Nat} {x1 : Int64} {res : Int64} (d : Nat) (hW : WT Z O) (hZ0 : Z[a0]? = some (12, 34)) (h : f12_holesOf n I O a0 x1 = some res) (hQ : Qx (some (.long res)) (Z, I, L, O)) : Ok g (d + 4, RX12, cX12_holesOf, 3, false, 0, 0, Z.length, pSl Z) Qx 0 [(0, .ref a0), (1, .long x1)] [] (Z, I, L, O) := by
  unfold f12_holesOf at h
  refine ok_lload_n dX12_holesOf_0 1 rfl ?_
  refine ok_lconst (v := 0) dX12_holesOf_1 (by decide) ?_
  refine ok_lcmp dX12_holesOf_2 ?_
  refine ok_if_lt (t := 28) dX12_holesOf_3 (by decide) (fun hc1 => ?_) (fun hc1 => ?_)
  · have h := (if_pos hc1).symm.trans h
    refine ok_lconst (v := 0) dX12_holesOf_28 (by decide) ?_
    cases h
    exact ok_lret dX12_holesOf_29 hQ
  · have h := (if_neg hc1).symm.trans h
    refine ok_lload_n dX12_holesOf_6 1 rfl ?_
    refine ok_aload_n dX12_holesOf_7 0 rfl ?_
    have hT2 : Z[(rO O a0 0)]? = some (13, 4371) := (wt_f (ci := 12) (k := 0) hW hZ0 rfl).2
    refine ok_getR (ci := 12) (k := 0) dX12_holesOf_8 flRX12_7 rfl hW hZ0 (by decide) ?_
    refine ok_iconst (v := 0) dX12_holesOf_11 (by decide) ?_
    refine ok_iald2 (N := 0) dX12_holesOf_12 hT2 (by unfold vp_in; decide) (by decide) ?_
    refine ok_i2l dX12_holesOf_13 ?_
    refine ok_lcmp dX12_holesOf_14 ?_
    refine ok_if_ge (t := 28) dX12_holesOf_15 (by decide) (fun hc3 => ?_) (fun hc3 => ?_)
    · have h := (if_pos hc3).symm.trans h
      refine ok_lconst (v := 0) dX12_holesOf_28 (by decide) ?_
      cases h
      exact ok_lret dX12_holesOf_29 hQ
    · have h := (if_neg hc3).symm.trans h
      refine ok_aload_n dX12_holesOf_18 0 rfl ?_
      refine ok_lload_n dX12_holesOf_19 1 rfl ?_
      refine ok_l2i dX12_holesOf_20 ?_
      obtain ⟨r4, hr5, h⟩ := bd h
      refine ok_callV (d := ((d + 0) + 3)) (mt := m12_holesIn) (mc := 0) (ms := 0) (As := [.int x1.toInt32]) (r := []) dX12_holesOf_21 mo12_holesIn mv12_holesIn lkRX12_272 rfl hZ0 (q := (RX12, TX12, 34)) rfl rfl rfl (Nat.le_of_ble_eq_true rfl) (by show _ + 1 ≤ d + _; omega) (Nat.le_refl _) (Nat.le_refl _) (pRt_mono ?_)
      refine k12_holesIn (d + 0) hW hZ0 hr5 ?_
      intro _
      show Ok g _ Qx 24 [(0, .ref a0), (1, .long x1)] [.int r4] (Z, I, L, O)
      refine ok_i2l dX12_holesOf_24 ?_
      refine ok_goto (t := 29) dX12_holesOf_25 (by decide) ?_
      cases h
      exact ok_lret dX12_holesOf_29 hQ
theorem k12_holesOf {g : pG} {Q : Option Value → pW → Prop} {Z : pZ} {I : (Nat → Nat → Int32)} {L : (Nat → Nat → Int64)} {O : (Nat → Nat → Option Nat)} {n : Nat} {a0 : Nat} {x1 : Int64} {res : Int64} (d : Nat) (hW : WT Z O) (hZ0 : Z[a0]? = some (12, 34)) (h : f12_holesOf n I O a0 x1 = some res) (hQ : Q (some (.long res)) (Z, I, L, O)) : CT g (d + 4) m12_holesOf 0 0 [.ref a0, .long x1] (Z, I, L, O) Q :=
  ct_of_ok (mt := m12_holesOf) (ini := false) mo12_holesOf.2.2.2.2 (fun h => by cases h) (Nat.le_of_ble_eq_true rfl) (o12_holesOf d hW hZ0 h ⟨trivial, hQ, rfl, rfl⟩)
theorem dX12_digitsOf_0 : decode cX12_digitsOf 0 = .ok (.lconst 0, 1) := by decide +kernel
theorem dX12_digitsOf_1 : decode cX12_digitsOf 1 = .ok (.lstore_n 2, 1) := by decide +kernel
theorem dX12_digitsOf_2 : decode cX12_digitsOf 2 = .ok (.lload_n 0, 1) := by decide +kernel
theorem dX12_digitsOf_3 : decode cX12_digitsOf 3 = .ok (.lconst 0, 1) := by decide +kernel
theorem dX12_digitsOf_4 : decode cX12_digitsOf 4 = .ok (.lcmp, 1) := by decide +kernel
theorem dX12_digitsOf_5 : decode cX12_digitsOf 5 = .ok (.ifCond .ge 8, 3) := by decide +kernel
theorem dX12_digitsOf_8 : decode cX12_digitsOf 8 = .ok (.lload_n 0, 1) := by decide +kernel
theorem dX12_digitsOf_9 : decode cX12_digitsOf 9 = .ok (.lneg, 1) := by decide +kernel
theorem dX12_digitsOf_10 : decode cX12_digitsOf 10 = .ok (.goto 4, 3) := by decide +kernel
theorem dX12_digitsOf_13 : decode cX12_digitsOf 13 = .ok (.lload_n 0, 1) := by decide +kernel
theorem dX12_digitsOf_14 : decode cX12_digitsOf 14 = .ok (.lstore 4, 2) := by decide +kernel
theorem dX12_digitsOf_16 : decode cX12_digitsOf 16 = .ok (.lload 4, 2) := by decide +kernel
theorem dX12_digitsOf_18 : decode cX12_digitsOf 18 = .ok (.lconst 0, 1) := by decide +kernel
theorem dX12_digitsOf_19 : decode cX12_digitsOf 19 = .ok (.lcmp, 1) := by decide +kernel
theorem dX12_digitsOf_20 : decode cX12_digitsOf 20 = .ok (.ifCond .le 23, 3) := by decide +kernel
theorem dX12_digitsOf_23 : decode cX12_digitsOf 23 = .ok (.lload_n 2, 1) := by decide +kernel
theorem dX12_digitsOf_24 : decode cX12_digitsOf 24 = .ok (.lload 4, 2) := by decide +kernel
theorem dX12_digitsOf_26 : decode cX12_digitsOf 26 = .ok (.ldc2_w 275, 3) := by decide +kernel
theorem dX12_digitsOf_29 : decode cX12_digitsOf 29 = .ok (.lrem, 1) := by decide +kernel
theorem dX12_digitsOf_30 : decode cX12_digitsOf 30 = .ok (.ladd, 1) := by decide +kernel
theorem dX12_digitsOf_31 : decode cX12_digitsOf 31 = .ok (.lstore_n 2, 1) := by decide +kernel
theorem dX12_digitsOf_32 : decode cX12_digitsOf 32 = .ok (.lload 4, 2) := by decide +kernel
theorem dX12_digitsOf_34 : decode cX12_digitsOf 34 = .ok (.ldc2_w 275, 3) := by decide +kernel
theorem dX12_digitsOf_37 : decode cX12_digitsOf 37 = .ok (.ldiv, 1) := by decide +kernel
theorem dX12_digitsOf_38 : decode cX12_digitsOf 38 = .ok (.lstore 4, 2) := by decide +kernel
theorem dX12_digitsOf_40 : decode cX12_digitsOf 40 = .ok (.goto (-24), 3) := by decide +kernel
theorem dX12_digitsOf_43 : decode cX12_digitsOf 43 = .ok (.lload_n 2, 1) := by decide +kernel
theorem dX12_digitsOf_44 : decode cX12_digitsOf 44 = .ok (.lreturn, 1) := by decide +kernel
def m12_digitsOf : pMT := (yX12_digitsOf, cX12_digitsOf, 6, some .long)
theorem mo12_digitsOf : mOK m12_digitsOf 1 := ⟨tb_i 1662 (by decide +kernel), wi_RX12, ⟨wn_RX12.1, wn_RX12.2, by decide +kernel⟩, by decide, plainFor_of_name wp_RX12⟩
theorem mv12_digitsOf : mS m12_digitsOf := (tb_i 1661 (by decide +kernel) : Cond.static yX12_digitsOf ∈ lw_tbl)
def f12_digitsOf_c16 (n : Nat) : Nat → Int64 → Int64 → Option (Int64)
  | 0, _, _ => none
  | m + 1, y2, y4 => (if (lg_cmp y4 (0 : Int64)) ≤ 0 then some (y2) else bl ((y2 + (y4 - y4 / 10 * 10)) : Int64) fun z2 => f12_digitsOf_c16 n m z2 (y4 / 10))
set_option maxHeartbeats 4000000 in
set_option maxRecDepth 20000 in
theorem o12_digitsOf_c16 {g : pG} {Qx : Option Value → pW → Prop} {Z : pZ} {I : (Nat → Nat → Int32)} {L : (Nat → Nat → Int64)} {O : (Nat → Nat → Option Nat)} {n : Nat} {res : Int64} (d : Nat) (hW : WT Z O) (hQ : Qx (some (.long res)) (Z, I, L, O)) : ∀ (m : Nat) (y2 : Int64) (y4 : Int64), f12_digitsOf_c16 n m y2 y4 = some res → Ok g (d + 2, RX12, cX12_digitsOf, 6, false, 0, 0, Z.length, pSl Z) Qx 16 [(2, .long y2), (4, .long y4)] [] (Z, I, L, O) := by
  intro m
  induction m with
  | zero => intro y2 y4 h; rw [f12_digitsOf_c16] at h; cases h
  | succ m ih =>
    intro y2 y4 h
    rw [f12_digitsOf_c16] at h
    refine ok_lload dX12_digitsOf_16 1 rfl ?_
    refine ok_lconst (v := 0) dX12_digitsOf_18 (by decide) ?_
    refine ok_lcmp dX12_digitsOf_19 ?_
    refine ok_if_le (t := 43) dX12_digitsOf_20 (by decide) (fun hc1 => ?_) (fun hc1 => ?_)
    · have h := (if_pos hc1).symm.trans h
      refine ok_lload_n dX12_digitsOf_43 0 rfl ?_
      cases h
      exact ok_lret dX12_digitsOf_44 hQ
    · have h := (if_neg hc1).symm.trans h
      refine ok_lload_n dX12_digitsOf_23 0 rfl ?_
      refine ok_lload dX12_digitsOf_24 1 rfl ?_
      refine ok_ldc2 (v := 10) dX12_digitsOf_26 (tb_i (c := Cond.constantLong RX12 275 (10)) 1663 (by decide +kernel)) ?_
      refine ok_lrem dX12_digitsOf_29 (by decide) ?_
      refine ok_ladd dX12_digitsOf_30 ?_
      obtain ⟨z2, ez2, h⟩ := blE h
      refine ok_nmJ ez2 ?_
      refine ok_lstore_n (l' := [(2, .long z2), (4, .long y4)]) dX12_digitsOf_31 rfl (Nat.le_of_ble_eq_true rfl) rfl ?_
      refine ok_lload dX12_digitsOf_32 1 rfl ?_
      refine ok_ldc2 (v := 10) dX12_digitsOf_34 (tb_i (c := Cond.constantLong RX12 275 (10)) 1663 (by decide +kernel)) ?_
      refine ok_ldiv dX12_digitsOf_37 (by decide) ?_
      refine ok_lstore (l' := [(4, .long (y4 / 10)), (2, .long z2)]) dX12_digitsOf_38 (Nat.le_of_ble_eq_true rfl) rfl ?_
      refine ok_goto (t := 16) dX12_digitsOf_40 (by decide) ?_
      refine ok_sub [1, 0] rfl ?_
      exact ih z2 (y4 / 10)  h
def f12_digitsOf (n : Nat) (x0 : Int64) : Option (Int64) := (if 0 ≤ (lg_cmp x0 (0 : Int64)) then f12_digitsOf_c16 n n (0 : Int64) x0 else f12_digitsOf_c16 n n (0 : Int64) (-x0))
set_option maxHeartbeats 4000000 in
set_option maxRecDepth 20000 in
theorem o12_digitsOf {g : pG} {Qx : Option Value → pW → Prop} {Z : pZ} {I : (Nat → Nat → Int32)} {L : (Nat → Nat → Int64)} {O : (Nat → Nat → Option Nat)} {n : Nat} {x0 : Int64} {res : Int64} (d : Nat) (hW : WT Z O) (h : f12_digitsOf n x0 = some res) (hQ : Qx (some (.long res)) (Z, I, L, O)) : Ok g (d + 2, RX12, cX12_digitsOf, 6, false, 0, 0, Z.length, pSl Z) Qx 0 [(0, .long x0)] [] (Z, I, L, O) := by
  unfold f12_digitsOf at h
  refine ok_lconst (v := 0) dX12_digitsOf_0 (by decide) ?_
  refine ok_lstore_n (l' := [(2, .long 0), (0, .long x0)]) dX12_digitsOf_1 rfl (Nat.le_of_ble_eq_true rfl) rfl ?_
  refine ok_lload_n dX12_digitsOf_2 1 rfl ?_
  refine ok_lconst (v := 0) dX12_digitsOf_3 (by decide) ?_
  refine ok_lcmp dX12_digitsOf_4 ?_
  refine ok_if_ge (t := 13) dX12_digitsOf_5 (by decide) (fun hc1 => ?_) (fun hc1 => ?_)
  · have h := (if_pos hc1).symm.trans h
    refine ok_lload_n dX12_digitsOf_13 1 rfl ?_
    refine ok_lstore (l' := [(4, .long x0), (2, .long 0), (0, .long x0)]) dX12_digitsOf_14 (Nat.le_of_ble_eq_true rfl) rfl ?_
    refine ok_sub [1, 0] rfl ?_
    exact o12_digitsOf_c16 d hW hQ  n (0 : Int64) x0  h
  · have h := (if_neg hc1).symm.trans h
    refine ok_lload_n dX12_digitsOf_8 1 rfl ?_
    refine ok_lneg dX12_digitsOf_9 ?_
    refine ok_goto (t := 14) dX12_digitsOf_10 (by decide) ?_
    refine ok_lstore (l' := [(4, .long (-x0)), (2, .long 0), (0, .long x0)]) dX12_digitsOf_14 (Nat.le_of_ble_eq_true rfl) rfl ?_
    refine ok_sub [1, 0] rfl ?_
    exact o12_digitsOf_c16 d hW hQ  n (0 : Int64) (-x0)  h
theorem k12_digitsOf {g : pG} {Q : Option Value → pW → Prop} {Z : pZ} {I : (Nat → Nat → Int32)} {L : (Nat → Nat → Int64)} {O : (Nat → Nat → Option Nat)} {n : Nat} {x0 : Int64} {res : Int64} (d : Nat) (hW : WT Z O) (h : f12_digitsOf n x0 = some res) (hQ : Q (some (.long res)) (Z, I, L, O)) : CT g (d + 2) m12_digitsOf 0 0 [.long x0] (Z, I, L, O) Q :=
  ct_of_ok (mt := m12_digitsOf) (ini := false) mo12_digitsOf.2.2.2.2 (fun h => by cases h) (Nat.le_of_ble_eq_true rfl) (o12_digitsOf d hW  h ⟨trivial, hQ, rfl, rfl⟩)
theorem dX12_ofOne_0 : decode cX12_ofOne 0 = .ok (.iload_n 1, 1) := by decide +kernel
theorem dX12_ofOne_1 : decode cX12_ofOne 1 = .ok (.iconst 5, 1) := by decide +kernel
theorem dX12_ofOne_2 : decode cX12_ofOne 2 = .ok (.if_icmp .ne 8, 3) := by decide +kernel
theorem dX12_ofOne_5 : decode cX12_ofOne 5 = .ok (.lload_n 2, 1) := by decide +kernel
theorem dX12_ofOne_6 : decode cX12_ofOne 6 = .ok (.lneg, 1) := by decide +kernel
theorem dX12_ofOne_7 : decode cX12_ofOne 7 = .ok (.goto 20, 3) := by decide +kernel
theorem dX12_ofOne_10 : decode cX12_ofOne 10 = .ok (.iload_n 1, 1) := by decide +kernel
theorem dX12_ofOne_11 : decode cX12_ofOne 11 = .ok (.iconst 4, 1) := by decide +kernel
theorem dX12_ofOne_12 : decode cX12_ofOne 12 = .ok (.if_icmp .ne 10, 3) := by decide +kernel
theorem dX12_ofOne_15 : decode cX12_ofOne 15 = .ok (.lload_n 2, 1) := by decide +kernel
theorem dX12_ofOne_16 : decode cX12_ofOne 16 = .ok (.invokestatic 277, 3) := by decide +kernel
theorem dX12_ofOne_19 : decode cX12_ofOne 19 = .ok (.goto 8, 3) := by decide +kernel
theorem dX12_ofOne_22 : decode cX12_ofOne 22 = .ok (.aload_n 0, 1) := by decide +kernel
theorem dX12_ofOne_23 : decode cX12_ofOne 23 = .ok (.lload_n 2, 1) := by decide +kernel
theorem dX12_ofOne_24 : decode cX12_ofOne 24 = .ok (.invokevirtual 280, 3) := by decide +kernel
theorem dX12_ofOne_27 : decode cX12_ofOne 27 = .ok (.lreturn, 1) := by decide +kernel
def m12_ofOne : pMT := (yX12_ofOne, cX12_ofOne, 4, some .long)
theorem mo12_ofOne : mOK m12_ofOne 2 := ⟨tb_i 1659 (by decide +kernel), wi_RX12, ⟨wn_RX12.1, wn_RX12.2, by decide +kernel⟩, by decide, plainFor_of_name wp_RX12⟩
theorem mv12_ofOne : mV m12_ofOne := ⟨tb_i 1658 (by decide +kernel), tb_p 100 (by decide +kernel)⟩
def f12_ofOne (n : Nat) (I : (Nat → Nat → Int32)) (O : (Nat → Nat → Option Nat)) (a0 : Nat) (x1 : Int32) (x2 : Int64) : Option (Int64) := (if x1 = (5 : Int32) then some ((-x2)) else (if x1 = (4 : Int32) then (f12_digitsOf n x2).bind fun r5 => some (r5) else (f12_holesOf n I O a0 x2).bind fun r3 => some (r3)))
set_option maxHeartbeats 4000000 in
set_option maxRecDepth 20000 in
theorem o12_ofOne {g : pG} {Qx : Option Value → pW → Prop} {Z : pZ} {I : (Nat → Nat → Int32)} {L : (Nat → Nat → Int64)} {O : (Nat → Nat → Option Nat)} {n : Nat} {a0 : Nat} {x1 : Int32} {x2 : Int64} {res : Int64} (d : Nat) (hW : WT Z O) (hZ0 : Z[a0]? = some (12, 34)) (h : f12_ofOne n I O a0 x1 x2 = some res) (hQ : Qx (some (.long res)) (Z, I, L, O)) : Ok g (d + 5, RX12, cX12_ofOne, 4, false, 0, 0, Z.length, pSl Z) Qx 0 [(0, .ref a0), (1, .int x1), (2, .long x2)] [] (Z, I, L, O) := by
  unfold f12_ofOne at h
  refine ok_iload_n dX12_ofOne_0 1 rfl ?_
  refine ok_iconst (v := 5) dX12_ofOne_1 (by decide) ?_
  refine ok_icmp_ne (t := 10) dX12_ofOne_2 (by decide) (fun hc1 => ?_) (fun hc1 => ?_)
  · have h := (if_neg hc1).symm.trans h
    refine ok_iload_n dX12_ofOne_10 1 rfl ?_
    refine ok_iconst (v := 4) dX12_ofOne_11 (by decide) ?_
    refine ok_icmp_ne (t := 22) dX12_ofOne_12 (by decide) (fun hc2 => ?_) (fun hc2 => ?_)
    · have h := (if_neg hc2).symm.trans h
      refine ok_aload_n dX12_ofOne_22 0 rfl ?_
      refine ok_lload_n dX12_ofOne_23 2 rfl ?_
      obtain ⟨r3, hr4, h⟩ := bd h
      refine ok_callV (d := ((d + 0) + 4)) (mt := m12_holesOf) (mc := 0) (ms := 0) (As := [.long x2]) (r := []) dX12_ofOne_24 mo12_holesOf mv12_holesOf lkRX12_280 rfl hZ0 (q := (RX12, TX12, 34)) rfl rfl rfl (Nat.le_of_ble_eq_true rfl) (by show _ + 1 ≤ d + _; omega) (Nat.le_refl _) (Nat.le_refl _) (pRt_mono ?_)
      refine k12_holesOf (d + 0) hW hZ0 hr4 ?_
      intro _
      show Ok g _ Qx 27 [(0, .ref a0), (1, .int x1), (2, .long x2)] [.long r3] (Z, I, L, O)
      cases h
      exact ok_lret dX12_ofOne_27 hQ
    · have h := (if_pos hc2).symm.trans h
      refine ok_lload_n dX12_ofOne_15 2 rfl ?_
      obtain ⟨r5, hr6, h⟩ := bd h
      refine ok_callS (d := ((d + 2) + 2)) (mt := m12_digitsOf) (mc := 0) (ms := 0) (As := [.long x2]) (r := []) dX12_ofOne_16 mo12_digitsOf mv12_digitsOf lkRX12_277 rfl rfl (Nat.le_of_ble_eq_true rfl) (by show _ + 1 ≤ d + _; omega) (Nat.le_refl _) (Nat.le_refl _) (pRt_mono ?_)
      refine k12_digitsOf (d + 2) hW  hr6 ?_
      intro _
      show Ok g _ Qx 19 [(0, .ref a0), (1, .int x1), (2, .long x2)] [.long r5] (Z, I, L, O)
      refine ok_goto (t := 27) dX12_ofOne_19 (by decide) ?_
      cases h
      exact ok_lret dX12_ofOne_27 hQ
  · have h := (if_pos hc1).symm.trans h
    refine ok_lload_n dX12_ofOne_5 2 rfl ?_
    refine ok_lneg dX12_ofOne_6 ?_
    refine ok_goto (t := 27) dX12_ofOne_7 (by decide) ?_
    cases h
    exact ok_lret dX12_ofOne_27 hQ
theorem k12_ofOne {g : pG} {Q : Option Value → pW → Prop} {Z : pZ} {I : (Nat → Nat → Int32)} {L : (Nat → Nat → Int64)} {O : (Nat → Nat → Option Nat)} {n : Nat} {a0 : Nat} {x1 : Int32} {x2 : Int64} {res : Int64} (d : Nat) (hW : WT Z O) (hZ0 : Z[a0]? = some (12, 34)) (h : f12_ofOne n I O a0 x1 x2 = some res) (hQ : Q (some (.long res)) (Z, I, L, O)) : CT g (d + 5) m12_ofOne 0 0 [.ref a0, .int x1, .long x2] (Z, I, L, O) Q :=
  ct_of_ok (mt := m12_ofOne) (ini := false) mo12_ofOne.2.2.2.2 (fun h => by cases h) (Nat.le_of_ble_eq_true rfl) (o12_ofOne d hW hZ0 h ⟨trivial, hQ, rfl, rfl⟩)
theorem dX12_joined_0 : decode cX12_joined 0 = .ok (.iload_n 0, 1) := by decide +kernel
theorem dX12_joined_1 : decode cX12_joined 1 = .ok (.bipush 21, 2) := by decide +kernel
theorem dX12_joined_3 : decode cX12_joined 3 = .ok (.if_icmp .ne 19, 3) := by decide +kernel
theorem dX12_joined_6 : decode cX12_joined 6 = .ok (.iload_n 1, 1) := by decide +kernel
theorem dX12_joined_7 : decode cX12_joined 7 = .ok (.ifCond .eq 11, 3) := by decide +kernel
theorem dX12_joined_10 : decode cX12_joined 10 = .ok (.iload_n 2, 1) := by decide +kernel
theorem dX12_joined_11 : decode cX12_joined 11 = .ok (.ifCond .eq 7, 3) := by decide +kernel
theorem dX12_joined_14 : decode cX12_joined 14 = .ok (.iconst 1, 1) := by decide +kernel
theorem dX12_joined_15 : decode cX12_joined 15 = .ok (.goto 20, 3) := by decide +kernel
theorem dX12_joined_18 : decode cX12_joined 18 = .ok (.iconst 0, 1) := by decide +kernel
theorem dX12_joined_19 : decode cX12_joined 19 = .ok (.goto 16, 3) := by decide +kernel
theorem dX12_joined_22 : decode cX12_joined 22 = .ok (.iload_n 1, 1) := by decide +kernel
theorem dX12_joined_23 : decode cX12_joined 23 = .ok (.ifCond .ne 7, 3) := by decide +kernel
theorem dX12_joined_26 : decode cX12_joined 26 = .ok (.iload_n 2, 1) := by decide +kernel
theorem dX12_joined_27 : decode cX12_joined 27 = .ok (.ifCond .eq 7, 3) := by decide +kernel
theorem dX12_joined_30 : decode cX12_joined 30 = .ok (.iconst 1, 1) := by decide +kernel
theorem dX12_joined_31 : decode cX12_joined 31 = .ok (.goto 4, 3) := by decide +kernel
theorem dX12_joined_34 : decode cX12_joined 34 = .ok (.iconst 0, 1) := by decide +kernel
theorem dX12_joined_35 : decode cX12_joined 35 = .ok (.ireturn, 1) := by decide +kernel
def m12_joined : pMT := (yX12_joined, cX12_joined, 3, some .boolean)
theorem mo12_joined : mOK m12_joined 3 := ⟨tb_i 1685 (by decide +kernel), wi_RX12, ⟨wn_RX12.1, wn_RX12.2, by decide +kernel⟩, by decide, plainFor_of_name wp_RX12⟩
theorem mv12_joined : mS m12_joined := (tb_i 1684 (by decide +kernel) : Cond.static yX12_joined ∈ lw_tbl)
def f12_joined (x0 : Int32) (x1 : Int32) (x2 : Int32) : Option (Int32) := (if x0 = (21 : Int32) then (if x1 = 0 then some ((0 : Int32)) else (if x2 = 0 then some ((0 : Int32)) else some ((1 : Int32)))) else (if x1 = 0 then (if x2 = 0 then some ((0 : Int32)) else some ((1 : Int32))) else some ((1 : Int32))))
set_option maxHeartbeats 4000000 in
set_option maxRecDepth 20000 in
theorem o12_joined {g : pG} {Qx : Option Value → pW → Prop} {Z : pZ} {I : (Nat → Nat → Int32)} {L : (Nat → Nat → Int64)} {O : (Nat → Nat → Option Nat)} {x0 : Int32} {x1 : Int32} {x2 : Int32} {res : Int32} (d : Nat) (hW : WT Z O) (h : f12_joined x0 x1 x2 = some res) (hQ : (res = 0 ∨ res = 1) → Qx (some (.int res)) (Z, I, L, O)) : Ok g (d + 2, RX12, cX12_joined, 3, false, 0, 0, Z.length, pSl Z) Qx 0 [(0, .int x0), (1, .int x1), (2, .int x2)] [] (Z, I, L, O) := by
  unfold f12_joined at h
  refine ok_iload_n dX12_joined_0 0 rfl ?_
  refine ok_bipush (v := 21) dX12_joined_1 (by decide) ?_
  refine ok_icmp_ne (t := 22) dX12_joined_3 (by decide) (fun hc1 => ?_) (fun hc1 => ?_)
  · have h := (if_neg hc1).symm.trans h
    refine ok_iload_n dX12_joined_22 1 rfl ?_
    refine ok_if_ne (t := 30) dX12_joined_23 (by decide) (fun hc2 => ?_) (fun hc2 => ?_)
    · have h := (if_neg hc2).symm.trans h
      refine ok_iconst (v := 1) dX12_joined_30 (by decide) ?_
      refine ok_goto (t := 35) dX12_joined_31 (by decide) ?_
      cases h
      exact ok_iret dX12_joined_35 (hQ (Or.inr rfl))
    · have h := (if_pos hc2).symm.trans h
      refine ok_iload_n dX12_joined_26 2 rfl ?_
      refine ok_if_eq (t := 34) dX12_joined_27 (by decide) (fun hc3 => ?_) (fun hc3 => ?_)
      · have h := (if_pos hc3).symm.trans h
        refine ok_iconst (v := 0) dX12_joined_34 (by decide) ?_
        cases h
        exact ok_iret dX12_joined_35 (hQ (Or.inl rfl))
      · have h := (if_neg hc3).symm.trans h
        refine ok_iconst (v := 1) dX12_joined_30 (by decide) ?_
        refine ok_goto (t := 35) dX12_joined_31 (by decide) ?_
        cases h
        exact ok_iret dX12_joined_35 (hQ (Or.inr rfl))
  · have h := (if_pos hc1).symm.trans h
    refine ok_iload_n dX12_joined_6 1 rfl ?_
    refine ok_if_eq (t := 18) dX12_joined_7 (by decide) (fun hc4 => ?_) (fun hc4 => ?_)
    · have h := (if_pos hc4).symm.trans h
      refine ok_iconst (v := 0) dX12_joined_18 (by decide) ?_
      refine ok_goto (t := 35) dX12_joined_19 (by decide) ?_
      cases h
      exact ok_iret dX12_joined_35 (hQ (Or.inl rfl))
    · have h := (if_neg hc4).symm.trans h
      refine ok_iload_n dX12_joined_10 2 rfl ?_
      refine ok_if_eq (t := 18) dX12_joined_11 (by decide) (fun hc5 => ?_) (fun hc5 => ?_)
      · have h := (if_pos hc5).symm.trans h
        refine ok_iconst (v := 0) dX12_joined_18 (by decide) ?_
        refine ok_goto (t := 35) dX12_joined_19 (by decide) ?_
        cases h
        exact ok_iret dX12_joined_35 (hQ (Or.inl rfl))
      · have h := (if_neg hc5).symm.trans h
        refine ok_iconst (v := 1) dX12_joined_14 (by decide) ?_
        refine ok_goto (t := 35) dX12_joined_15 (by decide) ?_
        cases h
        exact ok_iret dX12_joined_35 (hQ (Or.inr rfl))
theorem k12_joined {g : pG} {Q : Option Value → pW → Prop} {Z : pZ} {I : (Nat → Nat → Int32)} {L : (Nat → Nat → Int64)} {O : (Nat → Nat → Option Nat)} {x0 : Int32} {x1 : Int32} {x2 : Int32} {res : Int32} (d : Nat) (hW : WT Z O) (h : f12_joined x0 x1 x2 = some res) (hQ : Q (some (.int res)) (Z, I, L, O)) : CT g (d + 2) m12_joined 0 0 [.int x0, .int x1, .int x2] (Z, I, L, O) Q :=
  ct_of_ok (mt := m12_joined) (ini := false) mo12_joined.2.2.2.2 (fun h => by cases h) (Nat.le_of_ble_eq_true rfl) (o12_joined d hW  h (fun hb => ⟨hb, hQ, rfl, rfl⟩))
theorem dX12_summedUp_0 : decode cX12_summedUp 0 = .ok (.sipush 1065, 3) := by decide +kernel
theorem dX12_summedUp_3 : decode cX12_summedUp 3 = .ok (.iload_n 1, 1) := by decide +kernel
theorem dX12_summedUp_4 : decode cX12_summedUp 4 = .ok (.imul, 1) := by decide +kernel
theorem dX12_summedUp_5 : decode cX12_summedUp 5 = .ok (.iconst 1, 1) := by decide +kernel
theorem dX12_summedUp_6 : decode cX12_summedUp 6 = .ok (.iadd, 1) := by decide +kernel
theorem dX12_summedUp_7 : decode cX12_summedUp 7 = .ok (.bipush 19, 2) := by decide +kernel
theorem dX12_summedUp_9 : decode cX12_summedUp 9 = .ok (.iload_n 2, 1) := by decide +kernel
theorem dX12_summedUp_10 : decode cX12_summedUp 10 = .ok (.imul, 1) := by decide +kernel
theorem dX12_summedUp_11 : decode cX12_summedUp 11 = .ok (.iadd, 1) := by decide +kernel
theorem dX12_summedUp_12 : decode cX12_summedUp 12 = .ok (.istore_n 3, 1) := by decide +kernel
theorem dX12_summedUp_13 : decode cX12_summedUp 13 = .ok (.sipush 1065, 3) := by decide +kernel
theorem dX12_summedUp_16 : decode cX12_summedUp 16 = .ok (.iload_n 1, 1) := by decide +kernel
theorem dX12_summedUp_17 : decode cX12_summedUp 17 = .ok (.imul, 1) := by decide +kernel
theorem dX12_summedUp_18 : decode cX12_summedUp 18 = .ok (.sipush 457, 3) := by decide +kernel
theorem dX12_summedUp_21 : decode cX12_summedUp 21 = .ok (.iadd, 1) := by decide +kernel
theorem dX12_summedUp_22 : decode cX12_summedUp 22 = .ok (.istore 4, 2) := by decide +kernel
theorem dX12_summedUp_24 : decode cX12_summedUp 24 = .ok (.iconst 0, 1) := by decide +kernel
theorem dX12_summedUp_25 : decode cX12_summedUp 25 = .ok (.istore 5, 2) := by decide +kernel
theorem dX12_summedUp_27 : decode cX12_summedUp 27 = .ok (.iconst 0, 1) := by decide +kernel
theorem dX12_summedUp_28 : decode cX12_summedUp 28 = .ok (.istore 6, 2) := by decide +kernel
theorem dX12_summedUp_30 : decode cX12_summedUp 30 = .ok (.aload_n 0, 1) := by decide +kernel
theorem dX12_summedUp_31 : decode cX12_summedUp 31 = .ok (.getfield 16, 3) := by decide +kernel
theorem dX12_summedUp_34 : decode cX12_summedUp 34 = .ok (.iload_n 3, 1) := by decide +kernel
theorem dX12_summedUp_35 : decode cX12_summedUp 35 = .ok (.iconst 1, 1) := by decide +kernel
theorem dX12_summedUp_36 : decode cX12_summedUp 36 = .ok (.iadd, 1) := by decide +kernel
theorem dX12_summedUp_37 : decode cX12_summedUp 37 = .ok (.iaload, 1) := by decide +kernel
theorem dX12_summedUp_38 : decode cX12_summedUp 38 = .ok (.istore 7, 2) := by decide +kernel
theorem dX12_summedUp_40 : decode cX12_summedUp 40 = .ok (.iload 7, 2) := by decide +kernel
theorem dX12_summedUp_42 : decode cX12_summedUp 42 = .ok (.aload_n 0, 1) := by decide +kernel
theorem dX12_summedUp_43 : decode cX12_summedUp 43 = .ok (.getfield 16, 3) := by decide +kernel
theorem dX12_summedUp_46 : decode cX12_summedUp 46 = .ok (.iload_n 3, 1) := by decide +kernel
theorem dX12_summedUp_47 : decode cX12_summedUp 47 = .ok (.iconst 2, 1) := by decide +kernel
theorem dX12_summedUp_48 : decode cX12_summedUp 48 = .ok (.iadd, 1) := by decide +kernel
theorem dX12_summedUp_49 : decode cX12_summedUp 49 = .ok (.iaload, 1) := by decide +kernel
theorem dX12_summedUp_50 : decode cX12_summedUp 50 = .ok (.if_icmp .ge 307, 3) := by decide +kernel
theorem dX12_summedUp_53 : decode cX12_summedUp 53 = .ok (.aload_n 0, 1) := by decide +kernel
theorem dX12_summedUp_54 : decode cX12_summedUp 54 = .ok (.getfield 16, 3) := by decide +kernel
theorem dX12_summedUp_57 : decode cX12_summedUp 57 = .ok (.iload 4, 2) := by decide +kernel
theorem dX12_summedUp_59 : decode cX12_summedUp 59 = .ok (.iconst 2, 1) := by decide +kernel
theorem dX12_summedUp_60 : decode cX12_summedUp 60 = .ok (.iload 7, 2) := by decide +kernel
theorem dX12_summedUp_62 : decode cX12_summedUp 62 = .ok (.imul, 1) := by decide +kernel
theorem dX12_summedUp_63 : decode cX12_summedUp 63 = .ok (.iadd, 1) := by decide +kernel
theorem dX12_summedUp_64 : decode cX12_summedUp 64 = .ok (.iaload, 1) := by decide +kernel
theorem dX12_summedUp_65 : decode cX12_summedUp 65 = .ok (.istore 8, 2) := by decide +kernel
theorem dX12_summedUp_67 : decode cX12_summedUp 67 = .ok (.aload_n 0, 1) := by decide +kernel
theorem dX12_summedUp_68 : decode cX12_summedUp 68 = .ok (.getfield 16, 3) := by decide +kernel
theorem dX12_summedUp_71 : decode cX12_summedUp 71 = .ok (.iload 4, 2) := by decide +kernel
theorem dX12_summedUp_73 : decode cX12_summedUp 73 = .ok (.iconst 2, 1) := by decide +kernel
theorem dX12_summedUp_74 : decode cX12_summedUp 74 = .ok (.iload 7, 2) := by decide +kernel
theorem dX12_summedUp_76 : decode cX12_summedUp 76 = .ok (.imul, 1) := by decide +kernel
theorem dX12_summedUp_77 : decode cX12_summedUp 77 = .ok (.iadd, 1) := by decide +kernel
theorem dX12_summedUp_78 : decode cX12_summedUp 78 = .ok (.iconst 1, 1) := by decide +kernel
theorem dX12_summedUp_79 : decode cX12_summedUp 79 = .ok (.iadd, 1) := by decide +kernel
theorem dX12_summedUp_80 : decode cX12_summedUp 80 = .ok (.iaload, 1) := by decide +kernel
theorem dX12_summedUp_81 : decode cX12_summedUp 81 = .ok (.istore 9, 2) := by decide +kernel
theorem dX12_summedUp_83 : decode cX12_summedUp 83 = .ok (.iload 8, 2) := by decide +kernel
theorem dX12_summedUp_85 : decode cX12_summedUp 85 = .ok (.iconst 1, 1) := by decide +kernel
theorem dX12_summedUp_86 : decode cX12_summedUp 86 = .ok (.if_icmp .gt 35, 3) := by decide +kernel
theorem dX12_summedUp_89 : decode cX12_summedUp 89 = .ok (.aload_n 0, 1) := by decide +kernel
theorem dX12_summedUp_90 : decode cX12_summedUp 90 = .ok (.getfield 35, 3) := by decide +kernel
theorem dX12_summedUp_93 : decode cX12_summedUp 93 = .ok (.iload 5, 2) := by decide +kernel
theorem dX12_summedUp_95 : decode cX12_summedUp 95 = .ok (.iload 8, 2) := by decide +kernel
theorem dX12_summedUp_97 : decode cX12_summedUp 97 = .ok (.ifCond .ne 9, 3) := by decide +kernel
theorem dX12_summedUp_100 : decode cX12_summedUp 100 = .ok (.iload 9, 2) := by decide +kernel
theorem dX12_summedUp_102 : decode cX12_summedUp 102 = .ok (.i2l, 1) := by decide +kernel
theorem dX12_summedUp_103 : decode cX12_summedUp 103 = .ok (.goto 11, 3) := by decide +kernel
theorem dX12_summedUp_106 : decode cX12_summedUp 106 = .ok (.aload_n 0, 1) := by decide +kernel
theorem dX12_summedUp_107 : decode cX12_summedUp 107 = .ok (.getfield 32, 3) := by decide +kernel
theorem dX12_summedUp_110 : decode cX12_summedUp 110 = .ok (.iload 9, 2) := by decide +kernel
theorem dX12_summedUp_112 : decode cX12_summedUp 112 = .ok (.iaload, 1) := by decide +kernel
theorem dX12_summedUp_113 : decode cX12_summedUp 113 = .ok (.i2l, 1) := by decide +kernel
theorem dX12_summedUp_114 : decode cX12_summedUp 114 = .ok (.lastore, 1) := by decide +kernel
theorem dX12_summedUp_115 : decode cX12_summedUp 115 = .ok (.iinc 5 1, 3) := by decide +kernel
theorem dX12_summedUp_118 : decode cX12_summedUp 118 = .ok (.goto 233, 3) := by decide +kernel
theorem dX12_summedUp_121 : decode cX12_summedUp 121 = .ok (.iload 8, 2) := by decide +kernel
theorem dX12_summedUp_123 : decode cX12_summedUp 123 = .ok (.iconst 3, 1) := by decide +kernel
theorem dX12_summedUp_124 : decode cX12_summedUp 124 = .ok (.if_icmp .ne 38, 3) := by decide +kernel
theorem dX12_summedUp_127 : decode cX12_summedUp 127 = .ok (.iinc 5 (-1), 3) := by decide +kernel
theorem dX12_summedUp_130 : decode cX12_summedUp 130 = .ok (.iinc 6 (-1), 3) := by decide +kernel
theorem dX12_summedUp_133 : decode cX12_summedUp 133 = .ok (.aload_n 0, 1) := by decide +kernel
theorem dX12_summedUp_134 : decode cX12_summedUp 134 = .ok (.getfield 39, 3) := by decide +kernel
theorem dX12_summedUp_137 : decode cX12_summedUp 137 = .ok (.iload 6, 2) := by decide +kernel
theorem dX12_summedUp_139 : decode cX12_summedUp 139 = .ok (.baload, 1) := by decide +kernel
theorem dX12_summedUp_140 : decode cX12_summedUp 140 = .ok (.ifCond .ne 211, 3) := by decide +kernel
theorem dX12_summedUp_143 : decode cX12_summedUp 143 = .ok (.aload_n 0, 1) := by decide +kernel
theorem dX12_summedUp_144 : decode cX12_summedUp 144 = .ok (.getfield 35, 3) := by decide +kernel
theorem dX12_summedUp_147 : decode cX12_summedUp 147 = .ok (.iload 5, 2) := by decide +kernel
theorem dX12_summedUp_149 : decode cX12_summedUp 149 = .ok (.iconst 1, 1) := by decide +kernel
theorem dX12_summedUp_150 : decode cX12_summedUp 150 = .ok (.isub, 1) := by decide +kernel
theorem dX12_summedUp_151 : decode cX12_summedUp 151 = .ok (.aload_n 0, 1) := by decide +kernel
theorem dX12_summedUp_152 : decode cX12_summedUp 152 = .ok (.getfield 35, 3) := by decide +kernel
theorem dX12_summedUp_155 : decode cX12_summedUp 155 = .ok (.iload 5, 2) := by decide +kernel
theorem dX12_summedUp_157 : decode cX12_summedUp 157 = .ok (.laload, 1) := by decide +kernel
theorem dX12_summedUp_158 : decode cX12_summedUp 158 = .ok (.lastore, 1) := by decide +kernel
theorem dX12_summedUp_159 : decode cX12_summedUp 159 = .ok (.goto 192, 3) := by decide +kernel
theorem dX12_summedUp_162 : decode cX12_summedUp 162 = .ok (.iload 8, 2) := by decide +kernel
theorem dX12_summedUp_164 : decode cX12_summedUp 164 = .ok (.iconst 5, 1) := by decide +kernel
theorem dX12_summedUp_165 : decode cX12_summedUp 165 = .ok (.if_icmp .gt 30, 3) := by decide +kernel
theorem dX12_summedUp_168 : decode cX12_summedUp 168 = .ok (.aload_n 0, 1) := by decide +kernel
theorem dX12_summedUp_169 : decode cX12_summedUp 169 = .ok (.getfield 35, 3) := by decide +kernel
theorem dX12_summedUp_172 : decode cX12_summedUp 172 = .ok (.iload 5, 2) := by decide +kernel
theorem dX12_summedUp_174 : decode cX12_summedUp 174 = .ok (.iconst 1, 1) := by decide +kernel
theorem dX12_summedUp_175 : decode cX12_summedUp 175 = .ok (.isub, 1) := by decide +kernel
theorem dX12_summedUp_176 : decode cX12_summedUp 176 = .ok (.aload_n 0, 1) := by decide +kernel
theorem dX12_summedUp_177 : decode cX12_summedUp 177 = .ok (.iload 8, 2) := by decide +kernel
theorem dX12_summedUp_179 : decode cX12_summedUp 179 = .ok (.aload_n 0, 1) := by decide +kernel
theorem dX12_summedUp_180 : decode cX12_summedUp 180 = .ok (.getfield 35, 3) := by decide +kernel
theorem dX12_summedUp_183 : decode cX12_summedUp 183 = .ok (.iload 5, 2) := by decide +kernel
theorem dX12_summedUp_185 : decode cX12_summedUp 185 = .ok (.iconst 1, 1) := by decide +kernel
theorem dX12_summedUp_186 : decode cX12_summedUp 186 = .ok (.isub, 1) := by decide +kernel
theorem dX12_summedUp_187 : decode cX12_summedUp 187 = .ok (.laload, 1) := by decide +kernel
theorem dX12_summedUp_188 : decode cX12_summedUp 188 = .ok (.invokevirtual 283, 3) := by decide +kernel
theorem dX12_summedUp_191 : decode cX12_summedUp 191 = .ok (.lastore, 1) := by decide +kernel
theorem dX12_summedUp_192 : decode cX12_summedUp 192 = .ok (.goto 159, 3) := by decide +kernel
theorem dX12_summedUp_195 : decode cX12_summedUp 195 = .ok (.iload 8, 2) := by decide +kernel
theorem dX12_summedUp_197 : decode cX12_summedUp 197 = .ok (.bipush 10, 2) := by decide +kernel
theorem dX12_summedUp_199 : decode cX12_summedUp 199 = .ok (.if_icmp .ge 39, 3) := by decide +kernel
theorem dX12_summedUp_202 : decode cX12_summedUp 202 = .ok (.iinc 5 (-1), 3) := by decide +kernel
theorem dX12_summedUp_205 : decode cX12_summedUp 205 = .ok (.aload_n 0, 1) := by decide +kernel
theorem dX12_summedUp_206 : decode cX12_summedUp 206 = .ok (.getfield 35, 3) := by decide +kernel
theorem dX12_summedUp_209 : decode cX12_summedUp 209 = .ok (.iload 5, 2) := by decide +kernel
theorem dX12_summedUp_211 : decode cX12_summedUp 211 = .ok (.iconst 1, 1) := by decide +kernel
theorem dX12_summedUp_212 : decode cX12_summedUp 212 = .ok (.isub, 1) := by decide +kernel
theorem dX12_summedUp_213 : decode cX12_summedUp 213 = .ok (.iload 8, 2) := by decide +kernel
theorem dX12_summedUp_215 : decode cX12_summedUp 215 = .ok (.aload_n 0, 1) := by decide +kernel
theorem dX12_summedUp_216 : decode cX12_summedUp 216 = .ok (.getfield 35, 3) := by decide +kernel
theorem dX12_summedUp_219 : decode cX12_summedUp 219 = .ok (.iload 5, 2) := by decide +kernel
theorem dX12_summedUp_221 : decode cX12_summedUp 221 = .ok (.iconst 1, 1) := by decide +kernel
theorem dX12_summedUp_222 : decode cX12_summedUp 222 = .ok (.isub, 1) := by decide +kernel
theorem dX12_summedUp_223 : decode cX12_summedUp 223 = .ok (.laload, 1) := by decide +kernel
theorem dX12_summedUp_224 : decode cX12_summedUp 224 = .ok (.aload_n 0, 1) := by decide +kernel
theorem dX12_summedUp_225 : decode cX12_summedUp 225 = .ok (.getfield 35, 3) := by decide +kernel
theorem dX12_summedUp_228 : decode cX12_summedUp 228 = .ok (.iload 5, 2) := by decide +kernel
theorem dX12_summedUp_230 : decode cX12_summedUp 230 = .ok (.laload, 1) := by decide +kernel
theorem dX12_summedUp_231 : decode cX12_summedUp 231 = .ok (.invokestatic 287, 3) := by decide +kernel
theorem dX12_summedUp_234 : decode cX12_summedUp 234 = .ok (.lastore, 1) := by decide +kernel
theorem dX12_summedUp_235 : decode cX12_summedUp 235 = .ok (.goto 116, 3) := by decide +kernel
theorem dX12_summedUp_238 : decode cX12_summedUp 238 = .ok (.iload 8, 2) := by decide +kernel
theorem dX12_summedUp_240 : decode cX12_summedUp 240 = .ok (.bipush 20, 2) := by decide +kernel
theorem dX12_summedUp_242 : decode cX12_summedUp 242 = .ok (.if_icmp .ge 40, 3) := by decide +kernel
theorem dX12_summedUp_245 : decode cX12_summedUp 245 = .ok (.iinc 5 (-2), 3) := by decide +kernel
theorem dX12_summedUp_248 : decode cX12_summedUp 248 = .ok (.aload_n 0, 1) := by decide +kernel
theorem dX12_summedUp_249 : decode cX12_summedUp 249 = .ok (.getfield 39, 3) := by decide +kernel
theorem dX12_summedUp_252 : decode cX12_summedUp 252 = .ok (.iload 6, 2) := by decide +kernel
theorem dX12_summedUp_254 : decode cX12_summedUp 254 = .ok (.iload 8, 2) := by decide +kernel
theorem dX12_summedUp_256 : decode cX12_summedUp 256 = .ok (.aload_n 0, 1) := by decide +kernel
theorem dX12_summedUp_257 : decode cX12_summedUp 257 = .ok (.getfield 35, 3) := by decide +kernel
theorem dX12_summedUp_260 : decode cX12_summedUp 260 = .ok (.iload 5, 2) := by decide +kernel
theorem dX12_summedUp_262 : decode cX12_summedUp 262 = .ok (.laload, 1) := by decide +kernel
theorem dX12_summedUp_263 : decode cX12_summedUp 263 = .ok (.aload_n 0, 1) := by decide +kernel
theorem dX12_summedUp_264 : decode cX12_summedUp 264 = .ok (.getfield 35, 3) := by decide +kernel
theorem dX12_summedUp_267 : decode cX12_summedUp 267 = .ok (.iload 5, 2) := by decide +kernel
theorem dX12_summedUp_269 : decode cX12_summedUp 269 = .ok (.iconst 1, 1) := by decide +kernel
theorem dX12_summedUp_270 : decode cX12_summedUp 270 = .ok (.iadd, 1) := by decide +kernel
theorem dX12_summedUp_271 : decode cX12_summedUp 271 = .ok (.laload, 1) := by decide +kernel
theorem dX12_summedUp_272 : decode cX12_summedUp 272 = .ok (.invokestatic 291, 3) := by decide +kernel
theorem dX12_summedUp_275 : decode cX12_summedUp 275 = .ok (.bastore, 1) := by decide +kernel
theorem dX12_summedUp_276 : decode cX12_summedUp 276 = .ok (.iinc 6 1, 3) := by decide +kernel
theorem dX12_summedUp_279 : decode cX12_summedUp 279 = .ok (.goto 72, 3) := by decide +kernel
theorem dX12_summedUp_282 : decode cX12_summedUp 282 = .ok (.iload 8, 2) := by decide +kernel
theorem dX12_summedUp_284 : decode cX12_summedUp 284 = .ok (.bipush 20, 2) := by decide +kernel
theorem dX12_summedUp_286 : decode cX12_summedUp 286 = .ok (.if_icmp .ne 32, 3) := by decide +kernel
theorem dX12_summedUp_289 : decode cX12_summedUp 289 = .ok (.aload_n 0, 1) := by decide +kernel
theorem dX12_summedUp_290 : decode cX12_summedUp 290 = .ok (.getfield 39, 3) := by decide +kernel
theorem dX12_summedUp_293 : decode cX12_summedUp 293 = .ok (.iload 6, 2) := by decide +kernel
theorem dX12_summedUp_295 : decode cX12_summedUp 295 = .ok (.iconst 1, 1) := by decide +kernel
theorem dX12_summedUp_296 : decode cX12_summedUp 296 = .ok (.isub, 1) := by decide +kernel
theorem dX12_summedUp_297 : decode cX12_summedUp 297 = .ok (.aload_n 0, 1) := by decide +kernel
theorem dX12_summedUp_298 : decode cX12_summedUp 298 = .ok (.getfield 39, 3) := by decide +kernel
theorem dX12_summedUp_301 : decode cX12_summedUp 301 = .ok (.iload 6, 2) := by decide +kernel
theorem dX12_summedUp_303 : decode cX12_summedUp 303 = .ok (.iconst 1, 1) := by decide +kernel
theorem dX12_summedUp_304 : decode cX12_summedUp 304 = .ok (.isub, 1) := by decide +kernel
theorem dX12_summedUp_305 : decode cX12_summedUp 305 = .ok (.baload, 1) := by decide +kernel
theorem dX12_summedUp_306 : decode cX12_summedUp 306 = .ok (.ifCond .ne 7, 3) := by decide +kernel
theorem dX12_summedUp_309 : decode cX12_summedUp 309 = .ok (.iconst 1, 1) := by decide +kernel
theorem dX12_summedUp_310 : decode cX12_summedUp 310 = .ok (.goto 4, 3) := by decide +kernel
theorem dX12_summedUp_313 : decode cX12_summedUp 313 = .ok (.iconst 0, 1) := by decide +kernel
theorem dX12_summedUp_314 : decode cX12_summedUp 314 = .ok (.bastore, 1) := by decide +kernel
theorem dX12_summedUp_315 : decode cX12_summedUp 315 = .ok (.goto 36, 3) := by decide +kernel
theorem dX12_summedUp_318 : decode cX12_summedUp 318 = .ok (.iinc 6 (-1), 3) := by decide +kernel
theorem dX12_summedUp_321 : decode cX12_summedUp 321 = .ok (.aload_n 0, 1) := by decide +kernel
theorem dX12_summedUp_322 : decode cX12_summedUp 322 = .ok (.getfield 39, 3) := by decide +kernel
theorem dX12_summedUp_325 : decode cX12_summedUp 325 = .ok (.iload 6, 2) := by decide +kernel
theorem dX12_summedUp_327 : decode cX12_summedUp 327 = .ok (.iconst 1, 1) := by decide +kernel
theorem dX12_summedUp_328 : decode cX12_summedUp 328 = .ok (.isub, 1) := by decide +kernel
theorem dX12_summedUp_329 : decode cX12_summedUp 329 = .ok (.iload 8, 2) := by decide +kernel
theorem dX12_summedUp_331 : decode cX12_summedUp 331 = .ok (.aload_n 0, 1) := by decide +kernel
theorem dX12_summedUp_332 : decode cX12_summedUp 332 = .ok (.getfield 39, 3) := by decide +kernel
theorem dX12_summedUp_335 : decode cX12_summedUp 335 = .ok (.iload 6, 2) := by decide +kernel
theorem dX12_summedUp_337 : decode cX12_summedUp 337 = .ok (.iconst 1, 1) := by decide +kernel
theorem dX12_summedUp_338 : decode cX12_summedUp 338 = .ok (.isub, 1) := by decide +kernel
theorem dX12_summedUp_339 : decode cX12_summedUp 339 = .ok (.baload, 1) := by decide +kernel
theorem dX12_summedUp_340 : decode cX12_summedUp 340 = .ok (.aload_n 0, 1) := by decide +kernel
theorem dX12_summedUp_341 : decode cX12_summedUp 341 = .ok (.getfield 39, 3) := by decide +kernel
theorem dX12_summedUp_344 : decode cX12_summedUp 344 = .ok (.iload 6, 2) := by decide +kernel
theorem dX12_summedUp_346 : decode cX12_summedUp 346 = .ok (.baload, 1) := by decide +kernel
theorem dX12_summedUp_347 : decode cX12_summedUp 347 = .ok (.invokestatic 295, 3) := by decide +kernel
theorem dX12_summedUp_350 : decode cX12_summedUp 350 = .ok (.bastore, 1) := by decide +kernel
theorem dX12_summedUp_351 : decode cX12_summedUp 351 = .ok (.iinc 7 1, 3) := by decide +kernel
theorem dX12_summedUp_354 : decode cX12_summedUp 354 = .ok (.goto (-314), 3) := by decide +kernel
theorem dX12_summedUp_357 : decode cX12_summedUp 357 = .ok (.aload_n 0, 1) := by decide +kernel
theorem dX12_summedUp_358 : decode cX12_summedUp 358 = .ok (.getfield 35, 3) := by decide +kernel
theorem dX12_summedUp_361 : decode cX12_summedUp 361 = .ok (.iconst 0, 1) := by decide +kernel
theorem dX12_summedUp_362 : decode cX12_summedUp 362 = .ok (.laload, 1) := by decide +kernel
theorem dX12_summedUp_363 : decode cX12_summedUp 363 = .ok (.lreturn, 1) := by decide +kernel
def m12_summedUp : pMT := (yX12_summedUp, cX12_summedUp, 10, some .long)
theorem mo12_summedUp : mOK m12_summedUp 2 := ⟨tb_i 1655 (by decide +kernel), wi_RX12, ⟨wn_RX12.1, wn_RX12.2, by decide +kernel⟩, by decide, plainFor_of_name wp_RX12⟩
theorem mv12_summedUp : mV m12_summedUp := ⟨tb_i 1654 (by decide +kernel), tb_p 99 (by decide +kernel)⟩
def f12_summedUp_c40 (n : Nat) (O : (Nat → Nat → Option Nat)) : Nat → (Nat → Nat → Int32) → (Nat → Nat → Int64) → Nat → Int32 → Int32 → Int32 → Int32 → Int32 → Option (Int64 × (Nat → Nat → Int32) × (Nat → Nat → Int64))
  | 0, _, _, _, _, _, _, _, _ => none
  | m + 1, I, L, b0, y3, y4, y5, y6, y7 => (if (y3 + 2) < 0 ∨ 4260 ≤ (y3 + 2).toNatClampNeg then none else (if (I (rO O b0 2) (y3 + 2).toNatClampNeg) ≤ y7 then some ((L (rO O b0 21) 0), I, L) else (if (y4 + ((2 : Int32) * y7)) < 0 ∨ 4260 ≤ (y4 + ((2 : Int32) * y7)).toNatClampNeg then none else bl ((I (rO O b0 2) (y4 + ((2 : Int32) * y7)).toNatClampNeg) : Int32) fun z6 => (if ((y4 + ((2 : Int32) * y7)) + 1) < 0 ∨ 4260 ≤ ((y4 + ((2 : Int32) * y7)) + 1).toNatClampNeg then none else bl ((I (rO O b0 2) ((y4 + ((2 : Int32) * y7)) + 1).toNatClampNeg) : Int32) fun z8 => (if (1 : Int32) < z6 then (if z6 = (3 : Int32) then (if (y6 + (-1)) < 0 ∨ 330 ≤ (y6 + (-1)).toNatClampNeg then none else (if (I (rO O b0 22) (y6 + (-1)).toNatClampNeg) = 0 then (if (y5 + (-1)) < 0 ∨ 330 ≤ (y5 + (-1)).toNatClampNeg then none else (if ((y5 + (-1)) - 1) < 0 ∨ 330 ≤ ((y5 + (-1)) - 1).toNatClampNeg then none else bl (sL L (rO O b0 21) ((y5 + (-1)) - 1).toNatClampNeg (L (rO O b0 21) (y5 + (-1)).toNatClampNeg)) fun L56 => f12_summedUp_c40 n O m I L56 b0 y3 y4 (y5 + (-1)) (y6 + (-1)) (y7 + 1))) else f12_summedUp_c40 n O m I L b0 y3 y4 (y5 + (-1)) (y6 + (-1)) (y7 + 1))) else (if (5 : Int32) < z6 then (if (10 : Int32) ≤ z6 then (if (20 : Int32) ≤ z6 then (if z6 = (20 : Int32) then (if (y6 - 1) < 0 ∨ 330 ≤ (y6 - 1).toNatClampNeg then none else (if (I (rO O b0 22) (y6 - 1).toNatClampNeg) = 0 then (if (y6 - 1) < 0 ∨ 330 ≤ (y6 - 1).toNatClampNeg then none else bl (sI I (rO O b0 22) (y6 - 1).toNatClampNeg (vp_nar .boolean (1 : Int32))) fun I28 => f12_summedUp_c40 n O m I28 L b0 y3 y4 y5 y6 (y7 + 1)) else (if (y6 - 1) < 0 ∨ 330 ≤ (y6 - 1).toNatClampNeg then none else bl (sI I (rO O b0 22) (y6 - 1).toNatClampNeg (vp_nar .boolean (0 : Int32))) fun I26 => f12_summedUp_c40 n O m I26 L b0 y3 y4 y5 y6 (y7 + 1)))) else (if ((y6 + (-1)) - 1) < 0 ∨ 330 ≤ ((y6 + (-1)) - 1).toNatClampNeg then none else (if (y6 + (-1)) < 0 ∨ 330 ≤ (y6 + (-1)).toNatClampNeg then none else (f12_joined z6 (I (rO O b0 22) ((y6 + (-1)) - 1).toNatClampNeg) (I (rO O b0 22) (y6 + (-1)).toNatClampNeg)).bind fun r18 => (if ((y6 + (-1)) - 1) < 0 ∨ 330 ≤ ((y6 + (-1)) - 1).toNatClampNeg then none else bl (sI I (rO O b0 22) ((y6 + (-1)) - 1).toNatClampNeg (vp_nar .boolean r18)) fun I21 => f12_summedUp_c40 n O m I21 L b0 y3 y4 y5 (y6 + (-1)) (y7 + 1))))) else (if (y5 + (-2)) < 0 ∨ 330 ≤ (y5 + (-2)).toNatClampNeg then none else (if ((y5 + (-2)) + 1) < 0 ∨ 330 ≤ ((y5 + (-2)) + 1).toNatClampNeg then none else (f12_isAsked z6 (L (rO O b0 21) (y5 + (-2)).toNatClampNeg) (L (rO O b0 21) ((y5 + (-2)) + 1).toNatClampNeg)).bind fun r33 => (if y6 < 0 ∨ 330 ≤ y6.toNatClampNeg then none else bl (sI I (rO O b0 22) y6.toNatClampNeg (vp_nar .boolean r33)) fun I36 => f12_summedUp_c40 n O m I36 L b0 y3 y4 (y5 + (-2)) (y6 + 1) (y7 + 1))))) else (if ((y5 + (-1)) - 1) < 0 ∨ 330 ≤ ((y5 + (-1)) - 1).toNatClampNeg then none else (if (y5 + (-1)) < 0 ∨ 330 ≤ (y5 + (-1)).toNatClampNeg then none else (f12_two z6 (L (rO O b0 21) ((y5 + (-1)) - 1).toNatClampNeg) (L (rO O b0 21) (y5 + (-1)).toNatClampNeg)).bind fun r40 => (if ((y5 + (-1)) - 1) < 0 ∨ 330 ≤ ((y5 + (-1)) - 1).toNatClampNeg then none else bl (sL L (rO O b0 21) ((y5 + (-1)) - 1).toNatClampNeg r40) fun L43 => f12_summedUp_c40 n O m I L43 b0 y3 y4 (y5 + (-1)) y6 (y7 + 1))))) else (if (y5 - 1) < 0 ∨ 330 ≤ (y5 - 1).toNatClampNeg then none else (f12_ofOne n I O b0 z6 (L (rO O b0 21) (y5 - 1).toNatClampNeg)).bind fun r46 => (if (y5 - 1) < 0 ∨ 330 ≤ (y5 - 1).toNatClampNeg then none else bl (sL L (rO O b0 21) (y5 - 1).toNatClampNeg r46) fun L49 => f12_summedUp_c40 n O m I L49 b0 y3 y4 y5 y6 (y7 + 1))))) else (if z6 = 0 then (if y5 < 0 ∨ 330 ≤ y5.toNatClampNeg then none else bl (sL L (rO O b0 21) y5.toNatClampNeg z8.toInt64) fun L64 => f12_summedUp_c40 n O m I L64 b0 y3 y4 (y5 + 1) y6 (y7 + 1)) else (if z8 < 0 ∨ 7 ≤ z8.toNatClampNeg then none else (if y5 < 0 ∨ 330 ≤ y5.toNatClampNeg then none else bl (sL L (rO O b0 21) y5.toNatClampNeg (I (rO O b0 20) z8.toNatClampNeg).toInt64) fun L62 => f12_summedUp_c40 n O m I L62 b0 y3 y4 (y5 + 1) y6 (y7 + 1)))))))))
set_option maxHeartbeats 4000000 in
set_option maxRecDepth 20000 in
theorem o12_summedUp_c40 {g : pG} {Qx : Option Value → pW → Prop} {Z : pZ} {O : (Nat → Nat → Option Nat)} {n : Nat} {res : Int64 × (Nat → Nat → Int32) × (Nat → Nat → Int64)} (d : Nat) (hW : WT Z O) (hQ : Qx (some (.long res.1)) (Z, res.2.1, res.2.2, O)) : ∀ (m : Nat) (I : (Nat → Nat → Int32)) (L : (Nat → Nat → Int64)) (b0 : Nat) (y3 : Int32) (y4 : Int32) (y5 : Int32) (y6 : Int32) (y7 : Int32), (Z[b0]? = some (12, 34)) → f12_summedUp_c40 n O m I L b0 y3 y4 y5 y6 y7 = some res → Ok g (d + 6, RX12, cX12_summedUp, 10, false, 0, 0, Z.length, pSl Z) Qx 40 [(0, .ref b0), (3, .int y3), (4, .int y4), (5, .int y5), (6, .int y6), (7, .int y7)] [] (Z, I, L, O) := by
  intro m
  induction m with
  | zero => intro I L b0 y3 y4 y5 y6 y7 hZ_b0 h; rw [f12_summedUp_c40] at h; cases h
  | succ m ih =>
    intro I L b0 y3 y4 y5 y6 y7 hZ_b0 h
    rw [f12_summedUp_c40] at h
    refine ok_iload dX12_summedUp_40 5 rfl ?_
    refine ok_aload_n dX12_summedUp_42 0 rfl ?_
    have hT1 : Z[(rO O b0 2)]? = some (13, 4260) := (wt_f (ci := 12) (k := 2) hW hZ_b0 rfl).2
    refine ok_getR (ci := 12) (k := 2) dX12_summedUp_43 flRX12_16 rfl hW hZ_b0 (by decide) ?_
    refine ok_iload_n dX12_summedUp_46 1 rfl ?_
    refine ok_iconst (v := 2) dX12_summedUp_47 (by decide) ?_
    refine ok_iadd dX12_summedUp_48 ?_
    obtain ⟨hg2, h⟩ := gd h
    refine ok_iald2 (N := (y3 + 2).toNatClampNeg) dX12_summedUp_49 hT1 hg2 rfl ?_
    refine ok_icmp_ge (t := 357) dX12_summedUp_50 (by decide) (fun hc3 => ?_) (fun hc3 => ?_)
    · have h := (if_pos hc3).symm.trans h
      refine ok_aload_n dX12_summedUp_357 0 rfl ?_
      have hT4 : Z[(rO O b0 21)]? = some (14, 330) := (wt_f (ci := 12) (k := 21) hW hZ_b0 rfl).2
      refine ok_getR (ci := 12) (k := 21) dX12_summedUp_358 flRX12_35 rfl hW hZ_b0 (by decide) ?_
      refine ok_iconst (v := 0) dX12_summedUp_361 (by decide) ?_
      refine ok_lald2 (N := 0) dX12_summedUp_362 hT4 (by unfold vp_in; decide) (by decide) ?_
      cases h
      exact ok_lret dX12_summedUp_363 hQ
    · have h := (if_neg hc3).symm.trans h
      refine ok_aload_n dX12_summedUp_53 0 rfl ?_
      refine ok_getR (ci := 12) (k := 2) dX12_summedUp_54 flRX12_16 rfl hW hZ_b0 (by decide) ?_
      refine ok_iload dX12_summedUp_57 2 rfl ?_
      refine ok_iconst (v := 2) dX12_summedUp_59 (by decide) ?_
      refine ok_iload dX12_summedUp_60 5 rfl ?_
      refine ok_imul dX12_summedUp_62 ?_
      refine ok_iadd dX12_summedUp_63 ?_
      obtain ⟨hg5, h⟩ := gd h
      refine ok_iald2 (N := (y4 + ((2 : Int32) * y7)).toNatClampNeg) dX12_summedUp_64 hT1 hg5 rfl ?_
      obtain ⟨z6, ez6, h⟩ := blE h
      refine ok_nm ez6 ?_
      refine ok_istore (l' := [(8, .int z6), (0, .ref b0), (3, .int y3), (4, .int y4), (5, .int y5), (6, .int y6), (7, .int y7)]) dX12_summedUp_65 (Nat.le_of_ble_eq_true rfl) rfl ?_
      refine ok_aload_n dX12_summedUp_67 1 rfl ?_
      refine ok_getR (ci := 12) (k := 2) dX12_summedUp_68 flRX12_16 rfl hW hZ_b0 (by decide) ?_
      refine ok_iload dX12_summedUp_71 3 rfl ?_
      refine ok_iconst (v := 2) dX12_summedUp_73 (by decide) ?_
      refine ok_iload dX12_summedUp_74 6 rfl ?_
      refine ok_imul dX12_summedUp_76 ?_
      refine ok_iadd dX12_summedUp_77 ?_
      refine ok_iconst (v := 1) dX12_summedUp_78 (by decide) ?_
      refine ok_iadd dX12_summedUp_79 ?_
      obtain ⟨hg7, h⟩ := gd h
      refine ok_iald2 (N := ((y4 + ((2 : Int32) * y7)) + 1).toNatClampNeg) dX12_summedUp_80 hT1 hg7 rfl ?_
      obtain ⟨z8, ez8, h⟩ := blE h
      refine ok_nm ez8 ?_
      refine ok_istore (l' := [(9, .int z8), (8, .int z6), (0, .ref b0), (3, .int y3), (4, .int y4), (5, .int y5), (6, .int y6), (7, .int y7)]) dX12_summedUp_81 (Nat.le_of_ble_eq_true rfl) rfl ?_
      refine ok_iload dX12_summedUp_83 1 rfl ?_
      refine ok_iconst (v := 1) dX12_summedUp_85 (by decide) ?_
      refine ok_icmp_gt (t := 121) dX12_summedUp_86 (by decide) (fun hc9 => ?_) (fun hc9 => ?_)
      · have h := (if_pos hc9).symm.trans h
        refine ok_iload dX12_summedUp_121 1 rfl ?_
        refine ok_iconst (v := 3) dX12_summedUp_123 (by decide) ?_
        refine ok_icmp_ne (t := 162) dX12_summedUp_124 (by decide) (fun hc10 => ?_) (fun hc10 => ?_)
        · have h := (if_neg hc10).symm.trans h
          refine ok_iload dX12_summedUp_162 1 rfl ?_
          refine ok_iconst (v := 5) dX12_summedUp_164 (by decide) ?_
          refine ok_icmp_gt (t := 195) dX12_summedUp_165 (by decide) (fun hc11 => ?_) (fun hc11 => ?_)
          · have h := (if_pos hc11).symm.trans h
            refine ok_iload dX12_summedUp_195 1 rfl ?_
            refine ok_bipush (v := 10) dX12_summedUp_197 (by decide) ?_
            refine ok_icmp_ge (t := 238) dX12_summedUp_199 (by decide) (fun hc12 => ?_) (fun hc12 => ?_)
            · have h := (if_pos hc12).symm.trans h
              refine ok_iload dX12_summedUp_238 1 rfl ?_
              refine ok_bipush (v := 20) dX12_summedUp_240 (by decide) ?_
              refine ok_icmp_ge (t := 282) dX12_summedUp_242 (by decide) (fun hc13 => ?_) (fun hc13 => ?_)
              · have h := (if_pos hc13).symm.trans h
                refine ok_iload dX12_summedUp_282 1 rfl ?_
                refine ok_bipush (v := 20) dX12_summedUp_284 (by decide) ?_
                refine ok_icmp_ne (t := 318) dX12_summedUp_286 (by decide) (fun hc14 => ?_) (fun hc14 => ?_)
                · have h := (if_neg hc14).symm.trans h
                  refine ok_iinc (u := (y6 + (-1))) (l' := [(6, .int (y6 + (-1))), (9, .int z8), (8, .int z6), (0, .ref b0), (3, .int y3), (4, .int y4), (5, .int y5), (7, .int y7)]) dX12_summedUp_318 6 rfl rfl (Nat.le_of_ble_eq_true rfl) rfl ?_
                  refine ok_aload_n dX12_summedUp_321 3 rfl ?_
                  have hT15 : Z[(rO O b0 22)]? = some (15, 330) := (wt_f (ci := 12) (k := 22) hW hZ_b0 rfl).2
                  refine ok_getR (ci := 12) (k := 22) dX12_summedUp_322 flRX12_39 rfl hW hZ_b0 (by decide) ?_
                  refine ok_iload dX12_summedUp_325 0 rfl ?_
                  refine ok_iconst (v := 1) dX12_summedUp_327 (by decide) ?_
                  refine ok_isub dX12_summedUp_328 ?_
                  refine ok_iload dX12_summedUp_329 2 rfl ?_
                  refine ok_aload_n dX12_summedUp_331 3 rfl ?_
                  refine ok_getR (ci := 12) (k := 22) dX12_summedUp_332 flRX12_39 rfl hW hZ_b0 (by decide) ?_
                  refine ok_iload dX12_summedUp_335 0 rfl ?_
                  refine ok_iconst (v := 1) dX12_summedUp_337 (by decide) ?_
                  refine ok_isub dX12_summedUp_338 ?_
                  obtain ⟨hg16, h⟩ := gd h
                  refine ok_zald2 (N := ((y6 + (-1)) - 1).toNatClampNeg) dX12_summedUp_339 hT15 hg16 rfl ?_
                  refine ok_aload_n dX12_summedUp_340 3 rfl ?_
                  refine ok_getR (ci := 12) (k := 22) dX12_summedUp_341 flRX12_39 rfl hW hZ_b0 (by decide) ?_
                  refine ok_iload dX12_summedUp_344 0 rfl ?_
                  obtain ⟨hg17, h⟩ := gd h
                  refine ok_zald2 (N := (y6 + (-1)).toNatClampNeg) dX12_summedUp_346 hT15 hg17 rfl ?_
                  obtain ⟨r18, hr19, h⟩ := bd h
                  refine ok_callS (d := ((d + 3) + 2)) (mt := m12_joined) (mc := 0) (ms := 0) (As := [.int z6, .int (I (rO O b0 22) ((y6 + (-1)) - 1).toNatClampNeg), .int (I (rO O b0 22) (y6 + (-1)).toNatClampNeg)]) (r := [.int ((y6 + (-1)) - 1), .ref (rO O b0 22)]) dX12_summedUp_347 mo12_joined mv12_joined lkRX12_295 rfl rfl (Nat.le_of_ble_eq_true rfl) (by show _ + 1 ≤ d + _; omega) (Nat.le_refl _) (Nat.le_refl _) (pRt_mono ?_)
                  refine k12_joined (d + 3) hW  hr19 ?_
                  intro hbr18
                  show Ok g _ Qx 350 [(6, .int (y6 + (-1))), (9, .int z8), (8, .int z6), (0, .ref b0), (3, .int y3), (4, .int y4), (5, .int y5), (7, .int y7)] [.int r18, .int ((y6 + (-1)) - 1), .ref (rO O b0 22)] (Z, I, L, O)
                  obtain ⟨hg20, h⟩ := gd h
                  obtain ⟨I21, eI21, h⟩ := blE h
                  refine ok_zast3 dX12_summedUp_350 hT15 hg20 rfl eI21 ?_
                  refine ok_iinc (u := (y7 + 1)) (l' := [(7, .int (y7 + 1)), (6, .int (y6 + (-1))), (9, .int z8), (8, .int z6), (0, .ref b0), (3, .int y3), (4, .int y4), (5, .int y5)]) dX12_summedUp_351 7 rfl rfl (Nat.le_of_ble_eq_true rfl) rfl ?_
                  refine ok_goto (t := 40) dX12_summedUp_354 (by decide) ?_
                  refine ok_sub [4, 5, 6, 7, 1, 0] rfl ?_
                  exact ih I21 L b0 y3 y4 y5 (y6 + (-1)) (y7 + 1) hZ_b0 h
                · have h := (if_pos hc14).symm.trans h
                  refine ok_aload_n dX12_summedUp_289 2 rfl ?_
                  have hT22 : Z[(rO O b0 22)]? = some (15, 330) := (wt_f (ci := 12) (k := 22) hW hZ_b0 rfl).2
                  refine ok_getR (ci := 12) (k := 22) dX12_summedUp_290 flRX12_39 rfl hW hZ_b0 (by decide) ?_
                  refine ok_iload dX12_summedUp_293 6 rfl ?_
                  refine ok_iconst (v := 1) dX12_summedUp_295 (by decide) ?_
                  refine ok_isub dX12_summedUp_296 ?_
                  refine ok_aload_n dX12_summedUp_297 2 rfl ?_
                  refine ok_getR (ci := 12) (k := 22) dX12_summedUp_298 flRX12_39 rfl hW hZ_b0 (by decide) ?_
                  refine ok_iload dX12_summedUp_301 6 rfl ?_
                  refine ok_iconst (v := 1) dX12_summedUp_303 (by decide) ?_
                  refine ok_isub dX12_summedUp_304 ?_
                  obtain ⟨hg23, h⟩ := gd h
                  refine ok_zald2 (N := (y6 - 1).toNatClampNeg) dX12_summedUp_305 hT22 hg23 rfl ?_
                  refine ok_if_ne (t := 313) dX12_summedUp_306 (by decide) (fun hc24 => ?_) (fun hc24 => ?_)
                  · have h := (if_neg hc24).symm.trans h
                    refine ok_iconst (v := 0) dX12_summedUp_313 (by decide) ?_
                    obtain ⟨hg25, h⟩ := gd h
                    obtain ⟨I26, eI26, h⟩ := blE h
                    refine ok_zast3 dX12_summedUp_314 hT22 hg25 rfl eI26 ?_
                    refine ok_goto (t := 351) dX12_summedUp_315 (by decide) ?_
                    refine ok_iinc (u := (y7 + 1)) (l' := [(7, .int (y7 + 1)), (9, .int z8), (8, .int z6), (0, .ref b0), (3, .int y3), (4, .int y4), (5, .int y5), (6, .int y6)]) dX12_summedUp_351 7 rfl rfl (Nat.le_of_ble_eq_true rfl) rfl ?_
                    refine ok_goto (t := 40) dX12_summedUp_354 (by decide) ?_
                    refine ok_sub [3, 4, 5, 6, 7, 0] rfl ?_
                    exact ih I26 L b0 y3 y4 y5 y6 (y7 + 1) hZ_b0 h
                  · have h := (if_pos hc24).symm.trans h
                    refine ok_iconst (v := 1) dX12_summedUp_309 (by decide) ?_
                    refine ok_goto (t := 314) dX12_summedUp_310 (by decide) ?_
                    obtain ⟨hg27, h⟩ := gd h
                    obtain ⟨I28, eI28, h⟩ := blE h
                    refine ok_zast3 dX12_summedUp_314 hT22 hg27 rfl eI28 ?_
                    refine ok_goto (t := 351) dX12_summedUp_315 (by decide) ?_
                    refine ok_iinc (u := (y7 + 1)) (l' := [(7, .int (y7 + 1)), (9, .int z8), (8, .int z6), (0, .ref b0), (3, .int y3), (4, .int y4), (5, .int y5), (6, .int y6)]) dX12_summedUp_351 7 rfl rfl (Nat.le_of_ble_eq_true rfl) rfl ?_
                    refine ok_goto (t := 40) dX12_summedUp_354 (by decide) ?_
                    refine ok_sub [3, 4, 5, 6, 7, 0] rfl ?_
                    exact ih I28 L b0 y3 y4 y5 y6 (y7 + 1) hZ_b0 h
              · have h := (if_neg hc13).symm.trans h
                refine ok_iinc (u := (y5 + (-2))) (l' := [(5, .int (y5 + (-2))), (9, .int z8), (8, .int z6), (0, .ref b0), (3, .int y3), (4, .int y4), (6, .int y6), (7, .int y7)]) dX12_summedUp_245 5 rfl rfl (Nat.le_of_ble_eq_true rfl) rfl ?_
                refine ok_aload_n dX12_summedUp_248 3 rfl ?_
                have hT29 : Z[(rO O b0 22)]? = some (15, 330) := (wt_f (ci := 12) (k := 22) hW hZ_b0 rfl).2
                refine ok_getR (ci := 12) (k := 22) dX12_summedUp_249 flRX12_39 rfl hW hZ_b0 (by decide) ?_
                refine ok_iload dX12_summedUp_252 6 rfl ?_
                refine ok_iload dX12_summedUp_254 2 rfl ?_
                refine ok_aload_n dX12_summedUp_256 3 rfl ?_
                have hT30 : Z[(rO O b0 21)]? = some (14, 330) := (wt_f (ci := 12) (k := 21) hW hZ_b0 rfl).2
                refine ok_getR (ci := 12) (k := 21) dX12_summedUp_257 flRX12_35 rfl hW hZ_b0 (by decide) ?_
                refine ok_iload dX12_summedUp_260 0 rfl ?_
                obtain ⟨hg31, h⟩ := gd h
                refine ok_lald2 (N := (y5 + (-2)).toNatClampNeg) dX12_summedUp_262 hT30 hg31 rfl ?_
                refine ok_aload_n dX12_summedUp_263 3 rfl ?_
                refine ok_getR (ci := 12) (k := 21) dX12_summedUp_264 flRX12_35 rfl hW hZ_b0 (by decide) ?_
                refine ok_iload dX12_summedUp_267 0 rfl ?_
                refine ok_iconst (v := 1) dX12_summedUp_269 (by decide) ?_
                refine ok_iadd dX12_summedUp_270 ?_
                obtain ⟨hg32, h⟩ := gd h
                refine ok_lald2 (N := ((y5 + (-2)) + 1).toNatClampNeg) dX12_summedUp_271 hT30 hg32 rfl ?_
                obtain ⟨r33, hr34, h⟩ := bd h
                refine ok_callS (d := ((d + 3) + 2)) (mt := m12_isAsked) (mc := 0) (ms := 0) (As := [.int z6, .long (L (rO O b0 21) (y5 + (-2)).toNatClampNeg), .long (L (rO O b0 21) ((y5 + (-2)) + 1).toNatClampNeg)]) (r := [.int y6, .ref (rO O b0 22)]) dX12_summedUp_272 mo12_isAsked mv12_isAsked lkRX12_291 rfl rfl (Nat.le_of_ble_eq_true rfl) (by show _ + 1 ≤ d + _; omega) (Nat.le_refl _) (Nat.le_refl _) (pRt_mono ?_)
                refine k12_isAsked (d + 3) hW  hr34 ?_
                intro hbr33
                show Ok g _ Qx 275 [(5, .int (y5 + (-2))), (9, .int z8), (8, .int z6), (0, .ref b0), (3, .int y3), (4, .int y4), (6, .int y6), (7, .int y7)] [.int r33, .int y6, .ref (rO O b0 22)] (Z, I, L, O)
                obtain ⟨hg35, h⟩ := gd h
                obtain ⟨I36, eI36, h⟩ := blE h
                refine ok_zast3 dX12_summedUp_275 hT29 hg35 rfl eI36 ?_
                refine ok_iinc (u := (y6 + 1)) (l' := [(6, .int (y6 + 1)), (5, .int (y5 + (-2))), (9, .int z8), (8, .int z6), (0, .ref b0), (3, .int y3), (4, .int y4), (7, .int y7)]) dX12_summedUp_276 6 rfl rfl (Nat.le_of_ble_eq_true rfl) rfl ?_
                refine ok_goto (t := 351) dX12_summedUp_279 (by decide) ?_
                refine ok_iinc (u := (y7 + 1)) (l' := [(7, .int (y7 + 1)), (6, .int (y6 + 1)), (5, .int (y5 + (-2))), (9, .int z8), (8, .int z6), (0, .ref b0), (3, .int y3), (4, .int y4)]) dX12_summedUp_351 7 rfl rfl (Nat.le_of_ble_eq_true rfl) rfl ?_
                refine ok_goto (t := 40) dX12_summedUp_354 (by decide) ?_
                refine ok_sub [5, 6, 7, 2, 1, 0] rfl ?_
                exact ih I36 L b0 y3 y4 (y5 + (-2)) (y6 + 1) (y7 + 1) hZ_b0 h
            · have h := (if_neg hc12).symm.trans h
              refine ok_iinc (u := (y5 + (-1))) (l' := [(5, .int (y5 + (-1))), (9, .int z8), (8, .int z6), (0, .ref b0), (3, .int y3), (4, .int y4), (6, .int y6), (7, .int y7)]) dX12_summedUp_202 5 rfl rfl (Nat.le_of_ble_eq_true rfl) rfl ?_
              refine ok_aload_n dX12_summedUp_205 3 rfl ?_
              have hT37 : Z[(rO O b0 21)]? = some (14, 330) := (wt_f (ci := 12) (k := 21) hW hZ_b0 rfl).2
              refine ok_getR (ci := 12) (k := 21) dX12_summedUp_206 flRX12_35 rfl hW hZ_b0 (by decide) ?_
              refine ok_iload dX12_summedUp_209 0 rfl ?_
              refine ok_iconst (v := 1) dX12_summedUp_211 (by decide) ?_
              refine ok_isub dX12_summedUp_212 ?_
              refine ok_iload dX12_summedUp_213 2 rfl ?_
              refine ok_aload_n dX12_summedUp_215 3 rfl ?_
              refine ok_getR (ci := 12) (k := 21) dX12_summedUp_216 flRX12_35 rfl hW hZ_b0 (by decide) ?_
              refine ok_iload dX12_summedUp_219 0 rfl ?_
              refine ok_iconst (v := 1) dX12_summedUp_221 (by decide) ?_
              refine ok_isub dX12_summedUp_222 ?_
              obtain ⟨hg38, h⟩ := gd h
              refine ok_lald2 (N := ((y5 + (-1)) - 1).toNatClampNeg) dX12_summedUp_223 hT37 hg38 rfl ?_
              refine ok_aload_n dX12_summedUp_224 3 rfl ?_
              refine ok_getR (ci := 12) (k := 21) dX12_summedUp_225 flRX12_35 rfl hW hZ_b0 (by decide) ?_
              refine ok_iload dX12_summedUp_228 0 rfl ?_
              obtain ⟨hg39, h⟩ := gd h
              refine ok_lald2 (N := (y5 + (-1)).toNatClampNeg) dX12_summedUp_230 hT37 hg39 rfl ?_
              obtain ⟨r40, hr41, h⟩ := bd h
              refine ok_callS (d := ((d + 2) + 3)) (mt := m12_two) (mc := 0) (ms := 0) (As := [.int z6, .long (L (rO O b0 21) ((y5 + (-1)) - 1).toNatClampNeg), .long (L (rO O b0 21) (y5 + (-1)).toNatClampNeg)]) (r := [.int ((y5 + (-1)) - 1), .ref (rO O b0 21)]) dX12_summedUp_231 mo12_two mv12_two lkRX12_287 rfl rfl (Nat.le_of_ble_eq_true rfl) (by show _ + 1 ≤ d + _; omega) (Nat.le_refl _) (Nat.le_refl _) (pRt_mono ?_)
              refine k12_two (d + 2) hW  hr41 ?_
              intro _
              show Ok g _ Qx 234 [(5, .int (y5 + (-1))), (9, .int z8), (8, .int z6), (0, .ref b0), (3, .int y3), (4, .int y4), (6, .int y6), (7, .int y7)] [.long r40, .int ((y5 + (-1)) - 1), .ref (rO O b0 21)] (Z, I, L, O)
              obtain ⟨hg42, h⟩ := gd h
              obtain ⟨L43, eL43, h⟩ := blE h
              refine ok_last3 dX12_summedUp_234 hT37 hg42 rfl eL43 ?_
              refine ok_goto (t := 351) dX12_summedUp_235 (by decide) ?_
              refine ok_iinc (u := (y7 + 1)) (l' := [(7, .int (y7 + 1)), (5, .int (y5 + (-1))), (9, .int z8), (8, .int z6), (0, .ref b0), (3, .int y3), (4, .int y4), (6, .int y6)]) dX12_summedUp_351 7 rfl rfl (Nat.le_of_ble_eq_true rfl) rfl ?_
              refine ok_goto (t := 40) dX12_summedUp_354 (by decide) ?_
              refine ok_sub [4, 5, 6, 1, 7, 0] rfl ?_
              exact ih I L43 b0 y3 y4 (y5 + (-1)) y6 (y7 + 1) hZ_b0 h
          · have h := (if_neg hc11).symm.trans h
            refine ok_aload_n dX12_summedUp_168 2 rfl ?_
            have hT44 : Z[(rO O b0 21)]? = some (14, 330) := (wt_f (ci := 12) (k := 21) hW hZ_b0 rfl).2
            refine ok_getR (ci := 12) (k := 21) dX12_summedUp_169 flRX12_35 rfl hW hZ_b0 (by decide) ?_
            refine ok_iload dX12_summedUp_172 5 rfl ?_
            refine ok_iconst (v := 1) dX12_summedUp_174 (by decide) ?_
            refine ok_isub dX12_summedUp_175 ?_
            refine ok_aload_n dX12_summedUp_176 2 rfl ?_
            refine ok_iload dX12_summedUp_177 1 rfl ?_
            refine ok_aload_n dX12_summedUp_179 2 rfl ?_
            refine ok_getR (ci := 12) (k := 21) dX12_summedUp_180 flRX12_35 rfl hW hZ_b0 (by decide) ?_
            refine ok_iload dX12_summedUp_183 5 rfl ?_
            refine ok_iconst (v := 1) dX12_summedUp_185 (by decide) ?_
            refine ok_isub dX12_summedUp_186 ?_
            obtain ⟨hg45, h⟩ := gd h
            refine ok_lald2 (N := (y5 - 1).toNatClampNeg) dX12_summedUp_187 hT44 hg45 rfl ?_
            obtain ⟨r46, hr47, h⟩ := bd h
            refine ok_callV (d := ((d + 0) + 5)) (mt := m12_ofOne) (mc := 0) (ms := 0) (As := [.int z6, .long (L (rO O b0 21) (y5 - 1).toNatClampNeg)]) (r := [.int (y5 - 1), .ref (rO O b0 21)]) dX12_summedUp_188 mo12_ofOne mv12_ofOne lkRX12_283 rfl hZ_b0 (q := (RX12, TX12, 34)) rfl rfl rfl (Nat.le_of_ble_eq_true rfl) (by show _ + 1 ≤ d + _; omega) (Nat.le_refl _) (Nat.le_refl _) (pRt_mono ?_)
            refine k12_ofOne (d + 0) hW hZ_b0 hr47 ?_
            intro _
            show Ok g _ Qx 191 [(9, .int z8), (8, .int z6), (0, .ref b0), (3, .int y3), (4, .int y4), (5, .int y5), (6, .int y6), (7, .int y7)] [.long r46, .int (y5 - 1), .ref (rO O b0 21)] (Z, I, L, O)
            obtain ⟨hg48, h⟩ := gd h
            obtain ⟨L49, eL49, h⟩ := blE h
            refine ok_last3 dX12_summedUp_191 hT44 hg48 rfl eL49 ?_
            refine ok_goto (t := 351) dX12_summedUp_192 (by decide) ?_
            refine ok_iinc (u := (y7 + 1)) (l' := [(7, .int (y7 + 1)), (9, .int z8), (8, .int z6), (0, .ref b0), (3, .int y3), (4, .int y4), (5, .int y5), (6, .int y6)]) dX12_summedUp_351 7 rfl rfl (Nat.le_of_ble_eq_true rfl) rfl ?_
            refine ok_goto (t := 40) dX12_summedUp_354 (by decide) ?_
            refine ok_sub [3, 4, 5, 6, 7, 0] rfl ?_
            exact ih I L49 b0 y3 y4 y5 y6 (y7 + 1) hZ_b0 h
        · have h := (if_pos hc10).symm.trans h
          refine ok_iinc (u := (y5 + (-1))) (l' := [(5, .int (y5 + (-1))), (9, .int z8), (8, .int z6), (0, .ref b0), (3, .int y3), (4, .int y4), (6, .int y6), (7, .int y7)]) dX12_summedUp_127 5 rfl rfl (Nat.le_of_ble_eq_true rfl) rfl ?_
          refine ok_iinc (u := (y6 + (-1))) (l' := [(6, .int (y6 + (-1))), (5, .int (y5 + (-1))), (9, .int z8), (8, .int z6), (0, .ref b0), (3, .int y3), (4, .int y4), (7, .int y7)]) dX12_summedUp_130 6 rfl rfl (Nat.le_of_ble_eq_true rfl) rfl ?_
          refine ok_aload_n dX12_summedUp_133 4 rfl ?_
          have hT50 : Z[(rO O b0 22)]? = some (15, 330) := (wt_f (ci := 12) (k := 22) hW hZ_b0 rfl).2
          refine ok_getR (ci := 12) (k := 22) dX12_summedUp_134 flRX12_39 rfl hW hZ_b0 (by decide) ?_
          refine ok_iload dX12_summedUp_137 0 rfl ?_
          obtain ⟨hg51, h⟩ := gd h
          refine ok_zald2 (N := (y6 + (-1)).toNatClampNeg) dX12_summedUp_139 hT50 hg51 rfl ?_
          refine ok_if_ne (t := 351) dX12_summedUp_140 (by decide) (fun hc52 => ?_) (fun hc52 => ?_)
          · have h := (if_neg hc52).symm.trans h
            refine ok_iinc (u := (y7 + 1)) (l' := [(7, .int (y7 + 1)), (6, .int (y6 + (-1))), (5, .int (y5 + (-1))), (9, .int z8), (8, .int z6), (0, .ref b0), (3, .int y3), (4, .int y4)]) dX12_summedUp_351 7 rfl rfl (Nat.le_of_ble_eq_true rfl) rfl ?_
            refine ok_goto (t := 40) dX12_summedUp_354 (by decide) ?_
            refine ok_sub [5, 6, 7, 2, 1, 0] rfl ?_
            exact ih I L b0 y3 y4 (y5 + (-1)) (y6 + (-1)) (y7 + 1) hZ_b0 h
          · have h := (if_pos hc52).symm.trans h
            refine ok_aload_n dX12_summedUp_143 4 rfl ?_
            have hT53 : Z[(rO O b0 21)]? = some (14, 330) := (wt_f (ci := 12) (k := 21) hW hZ_b0 rfl).2
            refine ok_getR (ci := 12) (k := 21) dX12_summedUp_144 flRX12_35 rfl hW hZ_b0 (by decide) ?_
            refine ok_iload dX12_summedUp_147 1 rfl ?_
            refine ok_iconst (v := 1) dX12_summedUp_149 (by decide) ?_
            refine ok_isub dX12_summedUp_150 ?_
            refine ok_aload_n dX12_summedUp_151 4 rfl ?_
            refine ok_getR (ci := 12) (k := 21) dX12_summedUp_152 flRX12_35 rfl hW hZ_b0 (by decide) ?_
            refine ok_iload dX12_summedUp_155 1 rfl ?_
            obtain ⟨hg54, h⟩ := gd h
            refine ok_lald2 (N := (y5 + (-1)).toNatClampNeg) dX12_summedUp_157 hT53 hg54 rfl ?_
            obtain ⟨hg55, h⟩ := gd h
            obtain ⟨L56, eL56, h⟩ := blE h
            refine ok_last3 dX12_summedUp_158 hT53 hg55 rfl eL56 ?_
            refine ok_goto (t := 351) dX12_summedUp_159 (by decide) ?_
            refine ok_iinc (u := (y7 + 1)) (l' := [(7, .int (y7 + 1)), (6, .int (y6 + (-1))), (5, .int (y5 + (-1))), (9, .int z8), (8, .int z6), (0, .ref b0), (3, .int y3), (4, .int y4)]) dX12_summedUp_351 7 rfl rfl (Nat.le_of_ble_eq_true rfl) rfl ?_
            refine ok_goto (t := 40) dX12_summedUp_354 (by decide) ?_
            refine ok_sub [5, 6, 7, 2, 1, 0] rfl ?_
            exact ih I L56 b0 y3 y4 (y5 + (-1)) (y6 + (-1)) (y7 + 1) hZ_b0 h
      · have h := (if_neg hc9).symm.trans h
        refine ok_aload_n dX12_summedUp_89 2 rfl ?_
        have hT57 : Z[(rO O b0 21)]? = some (14, 330) := (wt_f (ci := 12) (k := 21) hW hZ_b0 rfl).2
        refine ok_getR (ci := 12) (k := 21) dX12_summedUp_90 flRX12_35 rfl hW hZ_b0 (by decide) ?_
        refine ok_iload dX12_summedUp_93 5 rfl ?_
        refine ok_iload dX12_summedUp_95 1 rfl ?_
        refine ok_if_ne (t := 106) dX12_summedUp_97 (by decide) (fun hc58 => ?_) (fun hc58 => ?_)
        · have h := (if_neg hc58).symm.trans h
          refine ok_aload_n dX12_summedUp_106 2 rfl ?_
          have hT59 : Z[(rO O b0 20)]? = some (13, 7) := (wt_f (ci := 12) (k := 20) hW hZ_b0 rfl).2
          refine ok_getR (ci := 12) (k := 20) dX12_summedUp_107 flRX12_32 rfl hW hZ_b0 (by decide) ?_
          refine ok_iload dX12_summedUp_110 0 rfl ?_
          obtain ⟨hg60, h⟩ := gd h
          refine ok_iald2 (N := z8.toNatClampNeg) dX12_summedUp_112 hT59 hg60 rfl ?_
          refine ok_i2l dX12_summedUp_113 ?_
          obtain ⟨hg61, h⟩ := gd h
          obtain ⟨L62, eL62, h⟩ := blE h
          refine ok_last3 dX12_summedUp_114 hT57 hg61 rfl eL62 ?_
          refine ok_iinc (u := (y5 + 1)) (l' := [(5, .int (y5 + 1)), (9, .int z8), (8, .int z6), (0, .ref b0), (3, .int y3), (4, .int y4), (6, .int y6), (7, .int y7)]) dX12_summedUp_115 5 rfl rfl (Nat.le_of_ble_eq_true rfl) rfl ?_
          refine ok_goto (t := 351) dX12_summedUp_118 (by decide) ?_
          refine ok_iinc (u := (y7 + 1)) (l' := [(7, .int (y7 + 1)), (5, .int (y5 + 1)), (9, .int z8), (8, .int z6), (0, .ref b0), (3, .int y3), (4, .int y4), (6, .int y6)]) dX12_summedUp_351 7 rfl rfl (Nat.le_of_ble_eq_true rfl) rfl ?_
          refine ok_goto (t := 40) dX12_summedUp_354 (by decide) ?_
          refine ok_sub [4, 5, 6, 1, 7, 0] rfl ?_
          exact ih I L62 b0 y3 y4 (y5 + 1) y6 (y7 + 1) hZ_b0 h
        · have h := (if_pos hc58).symm.trans h
          refine ok_iload dX12_summedUp_100 0 rfl ?_
          refine ok_i2l dX12_summedUp_102 ?_
          refine ok_goto (t := 114) dX12_summedUp_103 (by decide) ?_
          obtain ⟨hg63, h⟩ := gd h
          obtain ⟨L64, eL64, h⟩ := blE h
          refine ok_last3 dX12_summedUp_114 hT57 hg63 rfl eL64 ?_
          refine ok_iinc (u := (y5 + 1)) (l' := [(5, .int (y5 + 1)), (9, .int z8), (8, .int z6), (0, .ref b0), (3, .int y3), (4, .int y4), (6, .int y6), (7, .int y7)]) dX12_summedUp_115 5 rfl rfl (Nat.le_of_ble_eq_true rfl) rfl ?_
          refine ok_goto (t := 351) dX12_summedUp_118 (by decide) ?_
          refine ok_iinc (u := (y7 + 1)) (l' := [(7, .int (y7 + 1)), (5, .int (y5 + 1)), (9, .int z8), (8, .int z6), (0, .ref b0), (3, .int y3), (4, .int y4), (6, .int y6)]) dX12_summedUp_351 7 rfl rfl (Nat.le_of_ble_eq_true rfl) rfl ?_
          refine ok_goto (t := 40) dX12_summedUp_354 (by decide) ?_
          refine ok_sub [4, 5, 6, 1, 7, 0] rfl ?_
          exact ih I L64 b0 y3 y4 (y5 + 1) y6 (y7 + 1) hZ_b0 h
def f12_summedUp (n : Nat) (I : (Nat → Nat → Int32)) (L : (Nat → Nat → Int64)) (O : (Nat → Nat → Option Nat)) (a0 : Nat) (x1 : Int32) (x2 : Int32) : Option (Int64 × (Nat → Nat → Int32) × (Nat → Nat → Int64)) := bl (((((1065 : Int32) * x1) + 1) + ((19 : Int32) * x2)) : Int32) fun z1 => bl ((((1065 : Int32) * x1) + 457) : Int32) fun z2 => (if (z1 + 1) < 0 ∨ 4260 ≤ (z1 + 1).toNatClampNeg then none else bl ((I (rO O a0 2) (z1 + 1).toNatClampNeg) : Int32) fun z5 => f12_summedUp_c40 n O n I L a0 z1 z2 (0 : Int32) (0 : Int32) z5)
set_option maxHeartbeats 4000000 in
set_option maxRecDepth 20000 in
theorem o12_summedUp {g : pG} {Qx : Option Value → pW → Prop} {Z : pZ} {I : (Nat → Nat → Int32)} {L : (Nat → Nat → Int64)} {O : (Nat → Nat → Option Nat)} {n : Nat} {a0 : Nat} {x1 : Int32} {x2 : Int32} {res : Int64 × (Nat → Nat → Int32) × (Nat → Nat → Int64)} (d : Nat) (hW : WT Z O) (hZ0 : Z[a0]? = some (12, 34)) (h : f12_summedUp n I L O a0 x1 x2 = some res) (hQ : Qx (some (.long res.1)) (Z, res.2.1, res.2.2, O)) : Ok g (d + 6, RX12, cX12_summedUp, 10, false, 0, 0, Z.length, pSl Z) Qx 0 [(0, .ref a0), (1, .int x1), (2, .int x2)] [] (Z, I, L, O) := by
  unfold f12_summedUp at h
  refine ok_sipush (v := 1065) dX12_summedUp_0 (by decide) ?_
  refine ok_iload_n dX12_summedUp_3 1 rfl ?_
  refine ok_imul dX12_summedUp_4 ?_
  refine ok_iconst (v := 1) dX12_summedUp_5 (by decide) ?_
  refine ok_iadd dX12_summedUp_6 ?_
  refine ok_bipush (v := 19) dX12_summedUp_7 (by decide) ?_
  refine ok_iload_n dX12_summedUp_9 2 rfl ?_
  refine ok_imul dX12_summedUp_10 ?_
  refine ok_iadd dX12_summedUp_11 ?_
  obtain ⟨z1, ez1, h⟩ := blE h
  refine ok_nm ez1 ?_
  refine ok_istore_n (l' := [(3, .int z1), (0, .ref a0), (1, .int x1), (2, .int x2)]) dX12_summedUp_12 rfl (Nat.le_of_ble_eq_true rfl) rfl ?_
  refine ok_sipush (v := 1065) dX12_summedUp_13 (by decide) ?_
  refine ok_iload_n dX12_summedUp_16 2 rfl ?_
  refine ok_imul dX12_summedUp_17 ?_
  refine ok_sipush (v := 457) dX12_summedUp_18 (by decide) ?_
  refine ok_iadd dX12_summedUp_21 ?_
  obtain ⟨z2, ez2, h⟩ := blE h
  refine ok_nm ez2 ?_
  refine ok_istore (l' := [(4, .int z2), (3, .int z1), (0, .ref a0), (1, .int x1), (2, .int x2)]) dX12_summedUp_22 (Nat.le_of_ble_eq_true rfl) rfl ?_
  refine ok_iconst (v := 0) dX12_summedUp_24 (by decide) ?_
  refine ok_istore (l' := [(5, .int 0), (4, .int z2), (3, .int z1), (0, .ref a0), (1, .int x1), (2, .int x2)]) dX12_summedUp_25 (Nat.le_of_ble_eq_true rfl) rfl ?_
  refine ok_iconst (v := 0) dX12_summedUp_27 (by decide) ?_
  refine ok_istore (l' := [(6, .int 0), (5, .int 0), (4, .int z2), (3, .int z1), (0, .ref a0), (1, .int x1), (2, .int x2)]) dX12_summedUp_28 (Nat.le_of_ble_eq_true rfl) rfl ?_
  refine ok_aload_n dX12_summedUp_30 4 rfl ?_
  have hT3 : Z[(rO O a0 2)]? = some (13, 4260) := (wt_f (ci := 12) (k := 2) hW hZ0 rfl).2
  refine ok_getR (ci := 12) (k := 2) dX12_summedUp_31 flRX12_16 rfl hW hZ0 (by decide) ?_
  refine ok_iload_n dX12_summedUp_34 3 rfl ?_
  refine ok_iconst (v := 1) dX12_summedUp_35 (by decide) ?_
  refine ok_iadd dX12_summedUp_36 ?_
  obtain ⟨hg4, h⟩ := gd h
  refine ok_iald2 (N := (z1 + 1).toNatClampNeg) dX12_summedUp_37 hT3 hg4 rfl ?_
  obtain ⟨z5, ez5, h⟩ := blE h
  refine ok_nm ez5 ?_
  refine ok_istore (l' := [(7, .int z5), (6, .int 0), (5, .int 0), (4, .int z2), (3, .int z1), (0, .ref a0), (1, .int x1), (2, .int x2)]) dX12_summedUp_38 (Nat.le_of_ble_eq_true rfl) rfl ?_
  refine ok_sub [5, 4, 3, 2, 1, 0] rfl ?_
  exact o12_summedUp_c40 d hW hQ  n I L a0 z1 z2 (0 : Int32) (0 : Int32) z5 hZ0 h
theorem k12_summedUp {g : pG} {Q : Option Value → pW → Prop} {Z : pZ} {I : (Nat → Nat → Int32)} {L : (Nat → Nat → Int64)} {O : (Nat → Nat → Option Nat)} {n : Nat} {a0 : Nat} {x1 : Int32} {x2 : Int32} {res : Int64 × (Nat → Nat → Int32) × (Nat → Nat → Int64)} (d : Nat) (hW : WT Z O) (hZ0 : Z[a0]? = some (12, 34)) (h : f12_summedUp n I L O a0 x1 x2 = some res) (hQ : Q (some (.long res.1)) (Z, res.2.1, res.2.2, O)) : CT g (d + 6) m12_summedUp 0 0 [.ref a0, .int x1, .int x2] (Z, I, L, O) Q :=
  ct_of_ok (mt := m12_summedUp) (ini := false) mo12_summedUp.2.2.2.2 (fun h => by cases h) (Nat.le_of_ble_eq_true rfl) (o12_summedUp d hW hZ0 h ⟨trivial, hQ, rfl, rfl⟩)
theorem dX12_says_0 : decode cX12_says 0 = .ok (.iconst 0, 1) := by decide +kernel
theorem dX12_says_1 : decode cX12_says 1 = .ok (.istore 5, 2) := by decide +kernel
theorem dX12_says_3 : decode cX12_says 3 = .ok (.iload_n 1, 1) := by decide +kernel
theorem dX12_says_4 : decode cX12_says 4 = .ok (.ifCond .lt 60, 3) := by decide +kernel
theorem dX12_says_7 : decode cX12_says 7 = .ok (.iload 5, 2) := by decide +kernel
theorem dX12_says_9 : decode cX12_says 9 = .ok (.aload_n 0, 1) := by decide +kernel
theorem dX12_says_10 : decode cX12_says 10 = .ok (.getfield 16, 3) := by decide +kernel
theorem dX12_says_13 : decode cX12_says 13 = .ok (.sipush 1065, 3) := by decide +kernel
theorem dX12_says_16 : decode cX12_says 16 = .ok (.iload_n 1, 1) := by decide +kernel
theorem dX12_says_17 : decode cX12_says 17 = .ok (.imul, 1) := by decide +kernel
theorem dX12_says_18 : decode cX12_says 18 = .ok (.iaload, 1) := by decide +kernel
theorem dX12_says_19 : decode cX12_says 19 = .ok (.if_icmp .ge 45, 3) := by decide +kernel
theorem dX12_says_22 : decode cX12_says 22 = .ok (.aload_n 0, 1) := by decide +kernel
theorem dX12_says_23 : decode cX12_says 23 = .ok (.getfield 16, 3) := by decide +kernel
theorem dX12_says_26 : decode cX12_says 26 = .ok (.sipush 1065, 3) := by decide +kernel
theorem dX12_says_29 : decode cX12_says 29 = .ok (.iload_n 1, 1) := by decide +kernel
theorem dX12_says_30 : decode cX12_says 30 = .ok (.imul, 1) := by decide +kernel
theorem dX12_says_31 : decode cX12_says 31 = .ok (.iconst 1, 1) := by decide +kernel
theorem dX12_says_32 : decode cX12_says 32 = .ok (.iadd, 1) := by decide +kernel
theorem dX12_says_33 : decode cX12_says 33 = .ok (.bipush 19, 2) := by decide +kernel
theorem dX12_says_35 : decode cX12_says 35 = .ok (.iload 5, 2) := by decide +kernel
theorem dX12_says_37 : decode cX12_says 37 = .ok (.imul, 1) := by decide +kernel
theorem dX12_says_38 : decode cX12_says 38 = .ok (.iadd, 1) := by decide +kernel
theorem dX12_says_39 : decode cX12_says 39 = .ok (.iaload, 1) := by decide +kernel
theorem dX12_says_40 : decode cX12_says 40 = .ok (.iload_n 2, 1) := by decide +kernel
theorem dX12_says_41 : decode cX12_says 41 = .ok (.if_icmp .ne 17, 3) := by decide +kernel
theorem dX12_says_44 : decode cX12_says 44 = .ok (.aload_n 0, 1) := by decide +kernel
theorem dX12_says_45 : decode cX12_says 45 = .ok (.iload_n 1, 1) := by decide +kernel
theorem dX12_says_46 : decode cX12_says 46 = .ok (.iload 5, 2) := by decide +kernel
theorem dX12_says_48 : decode cX12_says 48 = .ok (.invokevirtual 299, 3) := by decide +kernel
theorem dX12_says_51 : decode cX12_says 51 = .ok (.iconst 0, 1) := by decide +kernel
theorem dX12_says_52 : decode cX12_says 52 = .ok (.iload 4, 2) := by decide +kernel
theorem dX12_says_54 : decode cX12_says 54 = .ok (.invokestatic 302, 3) := by decide +kernel
theorem dX12_says_57 : decode cX12_says 57 = .ok (.ireturn, 1) := by decide +kernel
theorem dX12_says_58 : decode cX12_says 58 = .ok (.iinc 5 1, 3) := by decide +kernel
theorem dX12_says_61 : decode cX12_says 61 = .ok (.goto (-58), 3) := by decide +kernel
theorem dX12_says_64 : decode cX12_says 64 = .ok (.iload_n 3, 1) := by decide +kernel
theorem dX12_says_65 : decode cX12_says 65 = .ok (.i2l, 1) := by decide +kernel
theorem dX12_says_66 : decode cX12_says 66 = .ok (.iconst 0, 1) := by decide +kernel
theorem dX12_says_67 : decode cX12_says 67 = .ok (.iload 4, 2) := by decide +kernel
theorem dX12_says_69 : decode cX12_says 69 = .ok (.invokestatic 302, 3) := by decide +kernel
theorem dX12_says_72 : decode cX12_says 72 = .ok (.ireturn, 1) := by decide +kernel
def m12_says : pMT := (yX12_says, cX12_says, 6, some .int)
theorem mo12_says : mOK m12_says 4 := ⟨tb_i 1651 (by decide +kernel), wi_RX12, ⟨wn_RX12.1, wn_RX12.2, by decide +kernel⟩, by decide, plainFor_of_name wp_RX12⟩
theorem mv12_says : mV m12_says := ⟨tb_i 1650 (by decide +kernel), tb_p 98 (by decide +kernel)⟩
def f12_says_c3 (n : Nat) (O : (Nat → Nat → Option Nat)) : Nat → (Nat → Nat → Int32) → (Nat → Nat → Int64) → Nat → Int32 → Int32 → Int32 → Int32 → Int32 → Option (Int32 × (Nat → Nat → Int32) × (Nat → Nat → Int64))
  | 0, _, _, _, _, _, _, _, _ => none
  | m + 1, I, L, b0, y1, y2, y3, y4, y5 => (if y1 < 0 then (f12_cut y3.toInt64 (0 : Int32) y4).bind fun r2 => some (r2, I, L) else (if ((1065 : Int32) * y1) < 0 ∨ 4260 ≤ ((1065 : Int32) * y1).toNatClampNeg then none else (if (I (rO O b0 2) ((1065 : Int32) * y1).toNatClampNeg) ≤ y5 then (f12_cut y3.toInt64 (0 : Int32) y4).bind fun r7 => some (r7, I, L) else (if ((((1065 : Int32) * y1) + 1) + ((19 : Int32) * y5)) < 0 ∨ 4260 ≤ ((((1065 : Int32) * y1) + 1) + ((19 : Int32) * y5)).toNatClampNeg then none else (if (I (rO O b0 2) ((((1065 : Int32) * y1) + 1) + ((19 : Int32) * y5)).toNatClampNeg) = y2 then (f12_summedUp n I L O b0 y1 y5).bind fun r11 => (f12_cut r11.1 (0 : Int32) y4).bind fun r13 => some (r13, r11.2.1, r11.2.2) else f12_says_c3 n O m I L b0 y1 y2 y3 y4 (y5 + 1))))))
set_option maxHeartbeats 4000000 in
set_option maxRecDepth 20000 in
theorem o12_says_c3 {g : pG} {Qx : Option Value → pW → Prop} {Z : pZ} {O : (Nat → Nat → Option Nat)} {n : Nat} {res : Int32 × (Nat → Nat → Int32) × (Nat → Nat → Int64)} (d : Nat) (hW : WT Z O) (hQ : Qx (some (.int res.1)) (Z, res.2.1, res.2.2, O)) : ∀ (m : Nat) (I : (Nat → Nat → Int32)) (L : (Nat → Nat → Int64)) (b0 : Nat) (y1 : Int32) (y2 : Int32) (y3 : Int32) (y4 : Int32) (y5 : Int32), (Z[b0]? = some (12, 34)) → f12_says_c3 n O m I L b0 y1 y2 y3 y4 y5 = some res → Ok g (d + 7, RX12, cX12_says, 6, false, 0, 0, Z.length, pSl Z) Qx 3 [(0, .ref b0), (1, .int y1), (2, .int y2), (3, .int y3), (4, .int y4), (5, .int y5)] [] (Z, I, L, O) := by
  intro m
  induction m with
  | zero => intro I L b0 y1 y2 y3 y4 y5 hZ_b0 h; rw [f12_says_c3] at h; cases h
  | succ m ih =>
    intro I L b0 y1 y2 y3 y4 y5 hZ_b0 h
    rw [f12_says_c3] at h
    refine ok_iload_n dX12_says_3 1 rfl ?_
    refine ok_if_lt (t := 64) dX12_says_4 (by decide) (fun hc1 => ?_) (fun hc1 => ?_)
    · have h := (if_pos hc1).symm.trans h
      refine ok_iload_n dX12_says_64 3 rfl ?_
      refine ok_i2l dX12_says_65 ?_
      refine ok_iconst (v := 0) dX12_says_66 (by decide) ?_
      refine ok_iload dX12_says_67 4 rfl ?_
      obtain ⟨r2, hr3, h⟩ := bd h
      refine ok_callS (d := ((d + 4) + 2)) (mt := m12_cut) (mc := 0) (ms := 0) (As := [.long y3.toInt64, .int 0, .int y4]) (r := []) dX12_says_69 mo12_cut mv12_cut lkRX12_302 rfl rfl (Nat.le_of_ble_eq_true rfl) (by show _ + 1 ≤ d + _; omega) (Nat.le_refl _) (Nat.le_refl _) (pRt_mono ?_)
      refine k12_cut (d + 4) hW  hr3 ?_
      intro _
      show Ok g _ Qx 72 [(0, .ref b0), (1, .int y1), (2, .int y2), (3, .int y3), (4, .int y4), (5, .int y5)] [.int r2] (Z, I, L, O)
      cases h
      exact ok_iret dX12_says_72 hQ
    · have h := (if_neg hc1).symm.trans h
      refine ok_iload dX12_says_7 5 rfl ?_
      refine ok_aload_n dX12_says_9 0 rfl ?_
      have hT4 : Z[(rO O b0 2)]? = some (13, 4260) := (wt_f (ci := 12) (k := 2) hW hZ_b0 rfl).2
      refine ok_getR (ci := 12) (k := 2) dX12_says_10 flRX12_16 rfl hW hZ_b0 (by decide) ?_
      refine ok_sipush (v := 1065) dX12_says_13 (by decide) ?_
      refine ok_iload_n dX12_says_16 1 rfl ?_
      refine ok_imul dX12_says_17 ?_
      obtain ⟨hg5, h⟩ := gd h
      refine ok_iald2 (N := ((1065 : Int32) * y1).toNatClampNeg) dX12_says_18 hT4 hg5 rfl ?_
      refine ok_icmp_ge (t := 64) dX12_says_19 (by decide) (fun hc6 => ?_) (fun hc6 => ?_)
      · have h := (if_pos hc6).symm.trans h
        refine ok_iload_n dX12_says_64 3 rfl ?_
        refine ok_i2l dX12_says_65 ?_
        refine ok_iconst (v := 0) dX12_says_66 (by decide) ?_
        refine ok_iload dX12_says_67 4 rfl ?_
        obtain ⟨r7, hr8, h⟩ := bd h
        refine ok_callS (d := ((d + 4) + 2)) (mt := m12_cut) (mc := 0) (ms := 0) (As := [.long y3.toInt64, .int 0, .int y4]) (r := []) dX12_says_69 mo12_cut mv12_cut lkRX12_302 rfl rfl (Nat.le_of_ble_eq_true rfl) (by show _ + 1 ≤ d + _; omega) (Nat.le_refl _) (Nat.le_refl _) (pRt_mono ?_)
        refine k12_cut (d + 4) hW  hr8 ?_
        intro _
        show Ok g _ Qx 72 [(0, .ref b0), (1, .int y1), (2, .int y2), (3, .int y3), (4, .int y4), (5, .int y5)] [.int r7] (Z, I, L, O)
        cases h
        exact ok_iret dX12_says_72 hQ
      · have h := (if_neg hc6).symm.trans h
        refine ok_aload_n dX12_says_22 0 rfl ?_
        refine ok_getR (ci := 12) (k := 2) dX12_says_23 flRX12_16 rfl hW hZ_b0 (by decide) ?_
        refine ok_sipush (v := 1065) dX12_says_26 (by decide) ?_
        refine ok_iload_n dX12_says_29 1 rfl ?_
        refine ok_imul dX12_says_30 ?_
        refine ok_iconst (v := 1) dX12_says_31 (by decide) ?_
        refine ok_iadd dX12_says_32 ?_
        refine ok_bipush (v := 19) dX12_says_33 (by decide) ?_
        refine ok_iload dX12_says_35 5 rfl ?_
        refine ok_imul dX12_says_37 ?_
        refine ok_iadd dX12_says_38 ?_
        obtain ⟨hg9, h⟩ := gd h
        refine ok_iald2 (N := ((((1065 : Int32) * y1) + 1) + ((19 : Int32) * y5)).toNatClampNeg) dX12_says_39 hT4 hg9 rfl ?_
        refine ok_iload_n dX12_says_40 2 rfl ?_
        refine ok_icmp_ne (t := 58) dX12_says_41 (by decide) (fun hc10 => ?_) (fun hc10 => ?_)
        · have h := (if_neg hc10).symm.trans h
          refine ok_iinc (u := (y5 + 1)) (l' := [(5, .int (y5 + 1)), (0, .ref b0), (1, .int y1), (2, .int y2), (3, .int y3), (4, .int y4)]) dX12_says_58 5 rfl rfl (Nat.le_of_ble_eq_true rfl) rfl ?_
          refine ok_goto (t := 3) dX12_says_61 (by decide) ?_
          refine ok_sub [1, 2, 3, 4, 5, 0] rfl ?_
          exact ih I L b0 y1 y2 y3 y4 (y5 + 1) hZ_b0 h
        · have h := (if_pos hc10).symm.trans h
          refine ok_aload_n dX12_says_44 0 rfl ?_
          refine ok_iload_n dX12_says_45 1 rfl ?_
          refine ok_iload dX12_says_46 5 rfl ?_
          obtain ⟨r11, hr12, h⟩ := bd h
          refine ok_callV (d := ((d + 0) + 6)) (mt := m12_summedUp) (mc := 0) (ms := 0) (As := [.int y1, .int y5]) (r := []) dX12_says_48 mo12_summedUp mv12_summedUp lkRX12_299 rfl hZ_b0 (q := (RX12, TX12, 34)) rfl rfl rfl (Nat.le_of_ble_eq_true rfl) (by show _ + 1 ≤ d + _; omega) (Nat.le_refl _) (Nat.le_refl _) (pRt_mono ?_)
          refine k12_summedUp (d + 0) hW hZ_b0 hr12 ?_
          intro _
          show Ok g _ Qx 51 [(0, .ref b0), (1, .int y1), (2, .int y2), (3, .int y3), (4, .int y4), (5, .int y5)] [.long r11.1] (Z, r11.2.1, r11.2.2, O)
          refine ok_iconst (v := 0) dX12_says_51 (by decide) ?_
          refine ok_iload dX12_says_52 4 rfl ?_
          obtain ⟨r13, hr14, h⟩ := bd h
          refine ok_callS (d := ((d + 4) + 2)) (mt := m12_cut) (mc := 0) (ms := 0) (As := [.long r11.1, .int 0, .int y4]) (r := []) dX12_says_54 mo12_cut mv12_cut lkRX12_302 rfl rfl (Nat.le_of_ble_eq_true rfl) (by show _ + 1 ≤ d + _; omega) (Nat.le_refl _) (Nat.le_refl _) (pRt_mono ?_)
          refine k12_cut (d + 4) hW  hr14 ?_
          intro _
          show Ok g _ Qx 57 [(0, .ref b0), (1, .int y1), (2, .int y2), (3, .int y3), (4, .int y4), (5, .int y5)] [.int r13] (Z, r11.2.1, r11.2.2, O)
          cases h
          exact ok_iret dX12_says_57 hQ
def f12_says (n : Nat) (I : (Nat → Nat → Int32)) (L : (Nat → Nat → Int64)) (O : (Nat → Nat → Option Nat)) (a0 : Nat) (x1 : Int32) (x2 : Int32) (x3 : Int32) (x4 : Int32) : Option (Int32 × (Nat → Nat → Int32) × (Nat → Nat → Int64)) := f12_says_c3 n O n I L a0 x1 x2 x3 x4 (0 : Int32)
set_option maxHeartbeats 4000000 in
set_option maxRecDepth 20000 in
theorem o12_says {g : pG} {Qx : Option Value → pW → Prop} {Z : pZ} {I : (Nat → Nat → Int32)} {L : (Nat → Nat → Int64)} {O : (Nat → Nat → Option Nat)} {n : Nat} {a0 : Nat} {x1 : Int32} {x2 : Int32} {x3 : Int32} {x4 : Int32} {res : Int32 × (Nat → Nat → Int32) × (Nat → Nat → Int64)} (d : Nat) (hW : WT Z O) (hZ0 : Z[a0]? = some (12, 34)) (h : f12_says n I L O a0 x1 x2 x3 x4 = some res) (hQ : Qx (some (.int res.1)) (Z, res.2.1, res.2.2, O)) : Ok g (d + 7, RX12, cX12_says, 6, false, 0, 0, Z.length, pSl Z) Qx 0 [(0, .ref a0), (1, .int x1), (2, .int x2), (3, .int x3), (4, .int x4)] [] (Z, I, L, O) := by
  unfold f12_says at h
  refine ok_iconst (v := 0) dX12_says_0 (by decide) ?_
  refine ok_istore (l' := [(5, .int 0), (0, .ref a0), (1, .int x1), (2, .int x2), (3, .int x3), (4, .int x4)]) dX12_says_1 (Nat.le_of_ble_eq_true rfl) rfl ?_
  refine ok_sub [1, 2, 3, 4, 5, 0] rfl ?_
  exact o12_says_c3 d hW hQ  n I L a0 x1 x2 x3 x4 (0 : Int32) hZ0 h
theorem k12_says {g : pG} {Q : Option Value → pW → Prop} {Z : pZ} {I : (Nat → Nat → Int32)} {L : (Nat → Nat → Int64)} {O : (Nat → Nat → Option Nat)} {n : Nat} {a0 : Nat} {x1 : Int32} {x2 : Int32} {x3 : Int32} {x4 : Int32} {res : Int32 × (Nat → Nat → Int32) × (Nat → Nat → Int64)} (d : Nat) (hW : WT Z O) (hZ0 : Z[a0]? = some (12, 34)) (h : f12_says n I L O a0 x1 x2 x3 x4 = some res) (hQ : Q (some (.int res.1)) (Z, res.2.1, res.2.2, O)) : CT g (d + 7) m12_says 0 0 [.ref a0, .int x1, .int x2, .int x3, .int x4] (Z, I, L, O) Q :=
  ct_of_ok (mt := m12_says) (ini := false) mo12_says.2.2.2.2 (fun h => by cases h) (Nat.le_of_ble_eq_true rfl) (o12_says d hW hZ0 h ⟨trivial, hQ, rfl, rfl⟩)
theorem dX12_namePlace_0 : decode cX12_namePlace 0 = .ok (.aload_n 0, 1) := by decide +kernel
theorem dX12_namePlace_1 : decode cX12_namePlace 1 = .ok (.getfield 32, 3) := by decide +kernel
theorem dX12_namePlace_4 : decode cX12_namePlace 4 = .ok (.iconst 0, 1) := by decide +kernel
theorem dX12_namePlace_5 : decode cX12_namePlace 5 = .ok (.aload_n 0, 1) := by decide +kernel
theorem dX12_namePlace_6 : decode cX12_namePlace 6 = .ok (.getfield 7, 3) := by decide +kernel
theorem dX12_namePlace_9 : decode cX12_namePlace 9 = .ok (.bipush 7, 2) := by decide +kernel
theorem dX12_namePlace_11 : decode cX12_namePlace 11 = .ok (.iaload, 1) := by decide +kernel
theorem dX12_namePlace_12 : decode cX12_namePlace 12 = .ok (.iastore, 1) := by decide +kernel
theorem dX12_namePlace_13 : decode cX12_namePlace 13 = .ok (.aload_n 0, 1) := by decide +kernel
theorem dX12_namePlace_14 : decode cX12_namePlace 14 = .ok (.getfield 32, 3) := by decide +kernel
theorem dX12_namePlace_17 : decode cX12_namePlace 17 = .ok (.iconst 1, 1) := by decide +kernel
theorem dX12_namePlace_18 : decode cX12_namePlace 18 = .ok (.aload_n 0, 1) := by decide +kernel
theorem dX12_namePlace_19 : decode cX12_namePlace 19 = .ok (.iload_n 1, 1) := by decide +kernel
theorem dX12_namePlace_20 : decode cX12_namePlace 20 = .ok (.iload_n 2, 1) := by decide +kernel
theorem dX12_namePlace_21 : decode cX12_namePlace 21 = .ok (.invokevirtual 87, 3) := by decide +kernel
theorem dX12_namePlace_24 : decode cX12_namePlace 24 = .ok (.iastore, 1) := by decide +kernel
theorem dX12_namePlace_25 : decode cX12_namePlace 25 = .ok (.aload_n 0, 1) := by decide +kernel
theorem dX12_namePlace_26 : decode cX12_namePlace 26 = .ok (.getfield 32, 3) := by decide +kernel
theorem dX12_namePlace_29 : decode cX12_namePlace 29 = .ok (.iconst 4, 1) := by decide +kernel
theorem dX12_namePlace_30 : decode cX12_namePlace 30 = .ok (.iload_n 1, 1) := by decide +kernel
theorem dX12_namePlace_31 : decode cX12_namePlace 31 = .ok (.iastore, 1) := by decide +kernel
theorem dX12_namePlace_32 : decode cX12_namePlace 32 = .ok (.aload_n 0, 1) := by decide +kernel
theorem dX12_namePlace_33 : decode cX12_namePlace 33 = .ok (.getfield 32, 3) := by decide +kernel
theorem dX12_namePlace_36 : decode cX12_namePlace 36 = .ok (.iconst 5, 1) := by decide +kernel
theorem dX12_namePlace_37 : decode cX12_namePlace 37 = .ok (.iload_n 2, 1) := by decide +kernel
theorem dX12_namePlace_38 : decode cX12_namePlace 38 = .ok (.iastore, 1) := by decide +kernel
theorem dX12_namePlace_39 : decode cX12_namePlace 39 = .ok (.aload_n 0, 1) := by decide +kernel
theorem dX12_namePlace_40 : decode cX12_namePlace 40 = .ok (.getfield 32, 3) := by decide +kernel
theorem dX12_namePlace_43 : decode cX12_namePlace 43 = .ok (.bipush 6, 2) := by decide +kernel
theorem dX12_namePlace_45 : decode cX12_namePlace 45 = .ok (.aload_n 0, 1) := by decide +kernel
theorem dX12_namePlace_46 : decode cX12_namePlace 46 = .ok (.iload_n 1, 1) := by decide +kernel
theorem dX12_namePlace_47 : decode cX12_namePlace 47 = .ok (.iload_n 2, 1) := by decide +kernel
theorem dX12_namePlace_48 : decode cX12_namePlace 48 = .ok (.invokevirtual 83, 3) := by decide +kernel
theorem dX12_namePlace_51 : decode cX12_namePlace 51 = .ok (.iastore, 1) := by decide +kernel
theorem dX12_namePlace_52 : decode cX12_namePlace 52 = .ok (.return_, 1) := by decide +kernel
def m12_namePlace : pMT := (yX12_namePlace, cX12_namePlace, 3, none)
theorem mo12_namePlace : mOK m12_namePlace 2 := ⟨tb_i 1639 (by decide +kernel), wi_RX12, ⟨wn_RX12.1, wn_RX12.2, by decide +kernel⟩, by decide, plainFor_of_name wp_RX12⟩
theorem mv12_namePlace : mV m12_namePlace := ⟨tb_i 1638 (by decide +kernel), tb_p 95 (by decide +kernel)⟩
def f12_namePlace (I : (Nat → Nat → Int32)) (O : (Nat → Nat → Option Nat)) (a0 : Nat) (x1 : Int32) (x2 : Int32) : Option ((Nat → Nat → Int32)) := bl (sI I (rO O a0 20) 0 (I (rO O a0 0) 7)) fun I3 => (f12_keyOf I3 O a0 x1 x2).bind fun r4 => bl (sI I3 (rO O a0 20) 1 r4) fun I6 => bl (sI I6 (rO O a0 20) 4 x1) fun I7 => bl (sI I7 (rO O a0 20) 5 x2) fun I8 => (f12_wearOf I8 O a0 x1 x2).bind fun r9 => bl (sI I8 (rO O a0 20) 6 r9) fun I11 => some (I11)
set_option maxHeartbeats 4000000 in
set_option maxRecDepth 20000 in
theorem o12_namePlace {g : pG} {Qx : Option Value → pW → Prop} {Z : pZ} {I : (Nat → Nat → Int32)} {L : (Nat → Nat → Int64)} {O : (Nat → Nat → Option Nat)} {a0 : Nat} {x1 : Int32} {x2 : Int32} {res : (Nat → Nat → Int32)} (d : Nat) (hW : WT Z O) (hZ0 : Z[a0]? = some (12, 34)) (h : f12_namePlace I O a0 x1 x2 = some res) (hQ : Qx none (Z, res, L, O)) : Ok g (d + 3, RX12, cX12_namePlace, 3, false, 0, 0, Z.length, pSl Z) Qx 0 [(0, .ref a0), (1, .int x1), (2, .int x2)] [] (Z, I, L, O) := by
  unfold f12_namePlace at h
  refine ok_aload_n dX12_namePlace_0 0 rfl ?_
  have hT1 : Z[(rO O a0 20)]? = some (13, 7) := (wt_f (ci := 12) (k := 20) hW hZ0 rfl).2
  refine ok_getR (ci := 12) (k := 20) dX12_namePlace_1 flRX12_32 rfl hW hZ0 (by decide) ?_
  refine ok_iconst (v := 0) dX12_namePlace_4 (by decide) ?_
  refine ok_aload_n dX12_namePlace_5 0 rfl ?_
  have hT2 : Z[(rO O a0 0)]? = some (13, 4371) := (wt_f (ci := 12) (k := 0) hW hZ0 rfl).2
  refine ok_getR (ci := 12) (k := 0) dX12_namePlace_6 flRX12_7 rfl hW hZ0 (by decide) ?_
  refine ok_bipush (v := 7) dX12_namePlace_9 (by decide) ?_
  refine ok_iald2 (N := 7) dX12_namePlace_11 hT2 (by unfold vp_in; decide) (by decide) ?_
  obtain ⟨I3, eI3, h⟩ := blE h
  refine ok_iast3 dX12_namePlace_12 hT1 (by unfold vp_in; decide) (by decide) eI3 ?_
  refine ok_aload_n dX12_namePlace_13 0 rfl ?_
  refine ok_getR (ci := 12) (k := 20) dX12_namePlace_14 flRX12_32 rfl hW hZ0 (by decide) ?_
  refine ok_iconst (v := 1) dX12_namePlace_17 (by decide) ?_
  refine ok_aload_n dX12_namePlace_18 0 rfl ?_
  refine ok_iload_n dX12_namePlace_19 1 rfl ?_
  refine ok_iload_n dX12_namePlace_20 2 rfl ?_
  obtain ⟨r4, hr5, h⟩ := bd h
  refine ok_callV (d := ((d + 0) + 2)) (mt := m12_keyOf) (mc := 0) (ms := 0) (As := [.int x1, .int x2]) (r := [.int 1, .ref (rO O a0 20)]) dX12_namePlace_21 mo12_keyOf mv12_keyOf lkRX12_87 rfl hZ0 (q := (RX12, TX12, 34)) rfl rfl rfl (Nat.le_of_ble_eq_true rfl) (by show _ + 1 ≤ d + _; omega) (Nat.le_refl _) (Nat.le_refl _) (pRt_mono ?_)
  refine k12_keyOf (d + 0) hW hZ0 hr5 ?_
  intro _
  show Ok g _ Qx 24 [(0, .ref a0), (1, .int x1), (2, .int x2)] [.int r4, .int 1, .ref (rO O a0 20)] (Z, I3, L, O)
  obtain ⟨I6, eI6, h⟩ := blE h
  refine ok_iast3 dX12_namePlace_24 hT1 (by unfold vp_in; decide) (by decide) eI6 ?_
  refine ok_aload_n dX12_namePlace_25 0 rfl ?_
  refine ok_getR (ci := 12) (k := 20) dX12_namePlace_26 flRX12_32 rfl hW hZ0 (by decide) ?_
  refine ok_iconst (v := 4) dX12_namePlace_29 (by decide) ?_
  refine ok_iload_n dX12_namePlace_30 1 rfl ?_
  obtain ⟨I7, eI7, h⟩ := blE h
  refine ok_iast3 dX12_namePlace_31 hT1 (by unfold vp_in; decide) (by decide) eI7 ?_
  refine ok_aload_n dX12_namePlace_32 0 rfl ?_
  refine ok_getR (ci := 12) (k := 20) dX12_namePlace_33 flRX12_32 rfl hW hZ0 (by decide) ?_
  refine ok_iconst (v := 5) dX12_namePlace_36 (by decide) ?_
  refine ok_iload_n dX12_namePlace_37 2 rfl ?_
  obtain ⟨I8, eI8, h⟩ := blE h
  refine ok_iast3 dX12_namePlace_38 hT1 (by unfold vp_in; decide) (by decide) eI8 ?_
  refine ok_aload_n dX12_namePlace_39 0 rfl ?_
  refine ok_getR (ci := 12) (k := 20) dX12_namePlace_40 flRX12_32 rfl hW hZ0 (by decide) ?_
  refine ok_bipush (v := 6) dX12_namePlace_43 (by decide) ?_
  refine ok_aload_n dX12_namePlace_45 0 rfl ?_
  refine ok_iload_n dX12_namePlace_46 1 rfl ?_
  refine ok_iload_n dX12_namePlace_47 2 rfl ?_
  obtain ⟨r9, hr10, h⟩ := bd h
  refine ok_callV (d := ((d + 0) + 2)) (mt := m12_wearOf) (mc := 0) (ms := 0) (As := [.int x1, .int x2]) (r := [.int 6, .ref (rO O a0 20)]) dX12_namePlace_48 mo12_wearOf mv12_wearOf lkRX12_83 rfl hZ0 (q := (RX12, TX12, 34)) rfl rfl rfl (Nat.le_of_ble_eq_true rfl) (by show _ + 1 ≤ d + _; omega) (Nat.le_refl _) (Nat.le_refl _) (pRt_mono ?_)
  refine k12_wearOf (d + 0) hW hZ0 hr10 ?_
  intro _
  show Ok g _ Qx 51 [(0, .ref a0), (1, .int x1), (2, .int x2)] [.int r9, .int 6, .ref (rO O a0 20)] (Z, I8, L, O)
  obtain ⟨I11, eI11, h⟩ := blE h
  refine ok_iast3 dX12_namePlace_51 hT1 (by unfold vp_in; decide) (by decide) eI11 ?_
  cases h
  exact ok_vret dX12_namePlace_52 hQ
theorem k12_namePlace {g : pG} {Q : Option Value → pW → Prop} {Z : pZ} {I : (Nat → Nat → Int32)} {L : (Nat → Nat → Int64)} {O : (Nat → Nat → Option Nat)} {a0 : Nat} {x1 : Int32} {x2 : Int32} {res : (Nat → Nat → Int32)} (d : Nat) (hW : WT Z O) (hZ0 : Z[a0]? = some (12, 34)) (h : f12_namePlace I O a0 x1 x2 = some res) (hQ : Q none (Z, res, L, O)) : CT g (d + 3) m12_namePlace 0 0 [.ref a0, .int x1, .int x2] (Z, I, L, O) Q :=
  ct_of_ok (mt := m12_namePlace) (ini := false) mo12_namePlace.2.2.2.2 (fun h => by cases h) (Nat.le_of_ble_eq_true rfl) (o12_namePlace d hW hZ0 h ⟨trivial, hQ, rfl, rfl⟩)
theorem dX12_nameChild_0 : decode cX12_nameChild 0 = .ok (.aload_n 0, 1) := by decide +kernel
theorem dX12_nameChild_1 : decode cX12_nameChild 1 = .ok (.getfield 32, 3) := by decide +kernel
theorem dX12_nameChild_4 : decode cX12_nameChild 4 = .ok (.iconst 0, 1) := by decide +kernel
theorem dX12_nameChild_5 : decode cX12_nameChild 5 = .ok (.aload_n 0, 1) := by decide +kernel
theorem dX12_nameChild_6 : decode cX12_nameChild 6 = .ok (.getfield 7, 3) := by decide +kernel
theorem dX12_nameChild_9 : decode cX12_nameChild 9 = .ok (.bipush 7, 2) := by decide +kernel
theorem dX12_nameChild_11 : decode cX12_nameChild 11 = .ok (.iaload, 1) := by decide +kernel
theorem dX12_nameChild_12 : decode cX12_nameChild 12 = .ok (.iastore, 1) := by decide +kernel
theorem dX12_nameChild_13 : decode cX12_nameChild 13 = .ok (.aload_n 0, 1) := by decide +kernel
theorem dX12_nameChild_14 : decode cX12_nameChild 14 = .ok (.getfield 32, 3) := by decide +kernel
theorem dX12_nameChild_17 : decode cX12_nameChild 17 = .ok (.iconst 1, 1) := by decide +kernel
theorem dX12_nameChild_18 : decode cX12_nameChild 18 = .ok (.iload_n 2, 1) := by decide +kernel
theorem dX12_nameChild_19 : decode cX12_nameChild 19 = .ok (.iastore, 1) := by decide +kernel
theorem dX12_nameChild_20 : decode cX12_nameChild 20 = .ok (.aload_n 0, 1) := by decide +kernel
theorem dX12_nameChild_21 : decode cX12_nameChild 21 = .ok (.getfield 32, 3) := by decide +kernel
theorem dX12_nameChild_24 : decode cX12_nameChild 24 = .ok (.iconst 2, 1) := by decide +kernel
theorem dX12_nameChild_25 : decode cX12_nameChild 25 = .ok (.iload_n 1, 1) := by decide +kernel
theorem dX12_nameChild_26 : decode cX12_nameChild 26 = .ok (.iastore, 1) := by decide +kernel
theorem dX12_nameChild_27 : decode cX12_nameChild 27 = .ok (.aload_n 0, 1) := by decide +kernel
theorem dX12_nameChild_28 : decode cX12_nameChild 28 = .ok (.getfield 32, 3) := by decide +kernel
theorem dX12_nameChild_31 : decode cX12_nameChild 31 = .ok (.iconst 3, 1) := by decide +kernel
theorem dX12_nameChild_32 : decode cX12_nameChild 32 = .ok (.iload_n 2, 1) := by decide +kernel
theorem dX12_nameChild_33 : decode cX12_nameChild 33 = .ok (.ifCond .ne 7, 3) := by decide +kernel
theorem dX12_nameChild_36 : decode cX12_nameChild 36 = .ok (.iconst 0, 1) := by decide +kernel
theorem dX12_nameChild_37 : decode cX12_nameChild 37 = .ok (.goto 9, 3) := by decide +kernel
theorem dX12_nameChild_40 : decode cX12_nameChild 40 = .ok (.aload_n 0, 1) := by decide +kernel
theorem dX12_nameChild_41 : decode cX12_nameChild 41 = .ok (.iload_n 1, 1) := by decide +kernel
theorem dX12_nameChild_42 : decode cX12_nameChild 42 = .ok (.iload_n 2, 1) := by decide +kernel
theorem dX12_nameChild_43 : decode cX12_nameChild 43 = .ok (.invokevirtual 306, 3) := by decide +kernel
theorem dX12_nameChild_46 : decode cX12_nameChild 46 = .ok (.iastore, 1) := by decide +kernel
theorem dX12_nameChild_47 : decode cX12_nameChild 47 = .ok (.return_, 1) := by decide +kernel
def m12_nameChild : pMT := (yX12_nameChild, cX12_nameChild, 3, none)
theorem mo12_nameChild : mOK m12_nameChild 2 := ⟨tb_i 1643 (by decide +kernel), wi_RX12, ⟨wn_RX12.1, wn_RX12.2, by decide +kernel⟩, by decide, plainFor_of_name wp_RX12⟩
theorem mv12_nameChild : mV m12_nameChild := ⟨tb_i 1642 (by decide +kernel), tb_p 96 (by decide +kernel)⟩
def f12_nameChild (I : (Nat → Nat → Int32)) (O : (Nat → Nat → Option Nat)) (a0 : Nat) (x1 : Int32) (x2 : Int32) : Option ((Nat → Nat → Int32)) := bl (sI I (rO O a0 20) 0 (I (rO O a0 0) 7)) fun I3 => bl (sI I3 (rO O a0 20) 1 x2) fun I4 => bl (sI I4 (rO O a0 20) 2 x1) fun I5 => (if x2 = 0 then bl (sI I5 (rO O a0 20) 3 (0 : Int32)) fun I10 => some (I10) else (f12_heardBy I5 O a0 x1 x2).bind fun r7 => bl (sI I5 (rO O a0 20) 3 r7) fun I9 => some (I9))
set_option maxHeartbeats 4000000 in
set_option maxRecDepth 20000 in
theorem o12_nameChild {g : pG} {Qx : Option Value → pW → Prop} {Z : pZ} {I : (Nat → Nat → Int32)} {L : (Nat → Nat → Int64)} {O : (Nat → Nat → Option Nat)} {a0 : Nat} {x1 : Int32} {x2 : Int32} {res : (Nat → Nat → Int32)} (d : Nat) (hW : WT Z O) (hZ0 : Z[a0]? = some (12, 34)) (h : f12_nameChild I O a0 x1 x2 = some res) (hQ : Qx none (Z, res, L, O)) : Ok g (d + 3, RX12, cX12_nameChild, 3, false, 0, 0, Z.length, pSl Z) Qx 0 [(0, .ref a0), (1, .int x1), (2, .int x2)] [] (Z, I, L, O) := by
  unfold f12_nameChild at h
  refine ok_aload_n dX12_nameChild_0 0 rfl ?_
  have hT1 : Z[(rO O a0 20)]? = some (13, 7) := (wt_f (ci := 12) (k := 20) hW hZ0 rfl).2
  refine ok_getR (ci := 12) (k := 20) dX12_nameChild_1 flRX12_32 rfl hW hZ0 (by decide) ?_
  refine ok_iconst (v := 0) dX12_nameChild_4 (by decide) ?_
  refine ok_aload_n dX12_nameChild_5 0 rfl ?_
  have hT2 : Z[(rO O a0 0)]? = some (13, 4371) := (wt_f (ci := 12) (k := 0) hW hZ0 rfl).2
  refine ok_getR (ci := 12) (k := 0) dX12_nameChild_6 flRX12_7 rfl hW hZ0 (by decide) ?_
  refine ok_bipush (v := 7) dX12_nameChild_9 (by decide) ?_
  refine ok_iald2 (N := 7) dX12_nameChild_11 hT2 (by unfold vp_in; decide) (by decide) ?_
  obtain ⟨I3, eI3, h⟩ := blE h
  refine ok_iast3 dX12_nameChild_12 hT1 (by unfold vp_in; decide) (by decide) eI3 ?_
  refine ok_aload_n dX12_nameChild_13 0 rfl ?_
  refine ok_getR (ci := 12) (k := 20) dX12_nameChild_14 flRX12_32 rfl hW hZ0 (by decide) ?_
  refine ok_iconst (v := 1) dX12_nameChild_17 (by decide) ?_
  refine ok_iload_n dX12_nameChild_18 2 rfl ?_
  obtain ⟨I4, eI4, h⟩ := blE h
  refine ok_iast3 dX12_nameChild_19 hT1 (by unfold vp_in; decide) (by decide) eI4 ?_
  refine ok_aload_n dX12_nameChild_20 0 rfl ?_
  refine ok_getR (ci := 12) (k := 20) dX12_nameChild_21 flRX12_32 rfl hW hZ0 (by decide) ?_
  refine ok_iconst (v := 2) dX12_nameChild_24 (by decide) ?_
  refine ok_iload_n dX12_nameChild_25 1 rfl ?_
  obtain ⟨I5, eI5, h⟩ := blE h
  refine ok_iast3 dX12_nameChild_26 hT1 (by unfold vp_in; decide) (by decide) eI5 ?_
  refine ok_aload_n dX12_nameChild_27 0 rfl ?_
  refine ok_getR (ci := 12) (k := 20) dX12_nameChild_28 flRX12_32 rfl hW hZ0 (by decide) ?_
  refine ok_iconst (v := 3) dX12_nameChild_31 (by decide) ?_
  refine ok_iload_n dX12_nameChild_32 2 rfl ?_
  refine ok_if_ne (t := 40) dX12_nameChild_33 (by decide) (fun hc6 => ?_) (fun hc6 => ?_)
  · have h := (if_neg hc6).symm.trans h
    refine ok_aload_n dX12_nameChild_40 0 rfl ?_
    refine ok_iload_n dX12_nameChild_41 1 rfl ?_
    refine ok_iload_n dX12_nameChild_42 2 rfl ?_
    obtain ⟨r7, hr8, h⟩ := bd h
    refine ok_callV (d := ((d + 0) + 2)) (mt := m12_heardBy) (mc := 0) (ms := 0) (As := [.int x1, .int x2]) (r := [.int 3, .ref (rO O a0 20)]) dX12_nameChild_43 mo12_heardBy mv12_heardBy lkRX12_306 rfl hZ0 (q := (RX12, TX12, 34)) rfl rfl rfl (Nat.le_of_ble_eq_true rfl) (by show _ + 1 ≤ d + _; omega) (Nat.le_refl _) (Nat.le_refl _) (pRt_mono ?_)
    refine k12_heardBy (d + 0) hW hZ0 hr8 ?_
    intro _
    show Ok g _ Qx 46 [(0, .ref a0), (1, .int x1), (2, .int x2)] [.int r7, .int 3, .ref (rO O a0 20)] (Z, I5, L, O)
    obtain ⟨I9, eI9, h⟩ := blE h
    refine ok_iast3 dX12_nameChild_46 hT1 (by unfold vp_in; decide) (by decide) eI9 ?_
    cases h
    exact ok_vret dX12_nameChild_47 hQ
  · have h := (if_pos hc6).symm.trans h
    refine ok_iconst (v := 0) dX12_nameChild_36 (by decide) ?_
    refine ok_goto (t := 46) dX12_nameChild_37 (by decide) ?_
    obtain ⟨I10, eI10, h⟩ := blE h
    refine ok_iast3 dX12_nameChild_46 hT1 (by unfold vp_in; decide) (by decide) eI10 ?_
    cases h
    exact ok_vret dX12_nameChild_47 hQ
theorem k12_nameChild {g : pG} {Q : Option Value → pW → Prop} {Z : pZ} {I : (Nat → Nat → Int32)} {L : (Nat → Nat → Int64)} {O : (Nat → Nat → Option Nat)} {a0 : Nat} {x1 : Int32} {x2 : Int32} {res : (Nat → Nat → Int32)} (d : Nat) (hW : WT Z O) (hZ0 : Z[a0]? = some (12, 34)) (h : f12_nameChild I O a0 x1 x2 = some res) (hQ : Q none (Z, res, L, O)) : CT g (d + 3) m12_nameChild 0 0 [.ref a0, .int x1, .int x2] (Z, I, L, O) Q :=
  ct_of_ok (mt := m12_nameChild) (ini := false) mo12_nameChild.2.2.2.2 (fun h => by cases h) (Nat.le_of_ble_eq_true rfl) (o12_nameChild d hW hZ0 h ⟨trivial, hQ, rfl, rfl⟩)
theorem dX12_blursOf_0 : decode cX12_blursOf 0 = .ok (.aload_n 0, 1) := by decide +kernel
theorem dX12_blursOf_1 : decode cX12_blursOf 1 = .ok (.iload_n 1, 1) := by decide +kernel
theorem dX12_blursOf_2 : decode cX12_blursOf 2 = .ok (.iload_n 2, 1) := by decide +kernel
theorem dX12_blursOf_3 : decode cX12_blursOf 3 = .ok (.invokevirtual 309, 3) := by decide +kernel
theorem dX12_blursOf_6 : decode cX12_blursOf 6 = .ok (.aload_n 0, 1) := by decide +kernel
theorem dX12_blursOf_7 : decode cX12_blursOf 7 = .ok (.iload_n 3, 1) := by decide +kernel
theorem dX12_blursOf_8 : decode cX12_blursOf 8 = .ok (.aload_n 0, 1) := by decide +kernel
theorem dX12_blursOf_9 : decode cX12_blursOf 9 = .ok (.iload_n 1, 1) := by decide +kernel
theorem dX12_blursOf_10 : decode cX12_blursOf 10 = .ok (.iload_n 2, 1) := by decide +kernel
theorem dX12_blursOf_11 : decode cX12_blursOf 11 = .ok (.invokevirtual 87, 3) := by decide +kernel
theorem dX12_blursOf_14 : decode cX12_blursOf 14 = .ok (.invokevirtual 312, 3) := by decide +kernel
theorem dX12_blursOf_17 : decode cX12_blursOf 17 = .ok (.aload_n 0, 1) := by decide +kernel
theorem dX12_blursOf_18 : decode cX12_blursOf 18 = .ok (.aload_n 0, 1) := by decide +kernel
theorem dX12_blursOf_19 : decode cX12_blursOf 19 = .ok (.getfield 7, 3) := by decide +kernel
theorem dX12_blursOf_22 : decode cX12_blursOf 22 = .ok (.iconst 3, 1) := by decide +kernel
theorem dX12_blursOf_23 : decode cX12_blursOf 23 = .ok (.iaload, 1) := by decide +kernel
theorem dX12_blursOf_24 : decode cX12_blursOf 24 = .ok (.iconst 0, 1) := by decide +kernel
theorem dX12_blursOf_25 : decode cX12_blursOf 25 = .ok (.aload_n 0, 1) := by decide +kernel
theorem dX12_blursOf_26 : decode cX12_blursOf 26 = .ok (.iload_n 1, 1) := by decide +kernel
theorem dX12_blursOf_27 : decode cX12_blursOf 27 = .ok (.iload_n 2, 1) := by decide +kernel
theorem dX12_blursOf_28 : decode cX12_blursOf 28 = .ok (.invokevirtual 83, 3) := by decide +kernel
theorem dX12_blursOf_31 : decode cX12_blursOf 31 = .ok (.iconst 2, 1) := by decide +kernel
theorem dX12_blursOf_32 : decode cX12_blursOf 32 = .ok (.idiv, 1) := by decide +kernel
theorem dX12_blursOf_33 : decode cX12_blursOf 33 = .ok (.bipush 10, 2) := by decide +kernel
theorem dX12_blursOf_35 : decode cX12_blursOf 35 = .ok (.invokevirtual 315, 3) := by decide +kernel
theorem dX12_blursOf_38 : decode cX12_blursOf 38 = .ok (.ireturn, 1) := by decide +kernel
def m12_blursOf : pMT := (yX12_blursOf, cX12_blursOf, 4, some .int)
theorem mo12_blursOf : mOK m12_blursOf 3 := ⟨tb_i 1635 (by decide +kernel), wi_RX12, ⟨wn_RX12.1, wn_RX12.2, by decide +kernel⟩, by decide, plainFor_of_name wp_RX12⟩
theorem mv12_blursOf : mV m12_blursOf := ⟨tb_i 1634 (by decide +kernel), tb_p 94 (by decide +kernel)⟩
def f12_blursOf (n : Nat) (I : (Nat → Nat → Int32)) (L : (Nat → Nat → Int64)) (O : (Nat → Nat → Option Nat)) (a0 : Nat) (x1 : Int32) (x2 : Int32) (x3 : Int32) : Option (Int32 × (Nat → Nat → Int32) × (Nat → Nat → Int64)) := (f12_namePlace I O a0 x1 x2).bind fun r1 => (f12_keyOf r1 O a0 x1 x2).bind fun r3 => (f12_nameChild r1 O a0 x3 r3).bind fun r5 => (f12_wearOf r5 O a0 x1 x2).bind fun r8 => (f12_says n r5 L O a0 (r5 (rO O a0 0) 3) (0 : Int32) (r8 / 2) (10 : Int32)).bind fun r10 => some (r10.1, r10.2.1, r10.2.2)
set_option maxHeartbeats 4000000 in
set_option maxRecDepth 20000 in
theorem o12_blursOf {g : pG} {Qx : Option Value → pW → Prop} {Z : pZ} {I : (Nat → Nat → Int32)} {L : (Nat → Nat → Int64)} {O : (Nat → Nat → Option Nat)} {n : Nat} {a0 : Nat} {x1 : Int32} {x2 : Int32} {x3 : Int32} {res : Int32 × (Nat → Nat → Int32) × (Nat → Nat → Int64)} (d : Nat) (hW : WT Z O) (hZ0 : Z[a0]? = some (12, 34)) (h : f12_blursOf n I L O a0 x1 x2 x3 = some res) (hQ : Qx (some (.int res.1)) (Z, res.2.1, res.2.2, O)) : Ok g (d + 8, RX12, cX12_blursOf, 4, false, 0, 0, Z.length, pSl Z) Qx 0 [(0, .ref a0), (1, .int x1), (2, .int x2), (3, .int x3)] [] (Z, I, L, O) := by
  unfold f12_blursOf at h
  refine ok_aload_n dX12_blursOf_0 0 rfl ?_
  refine ok_iload_n dX12_blursOf_1 1 rfl ?_
  refine ok_iload_n dX12_blursOf_2 2 rfl ?_
  obtain ⟨r1, hr2, h⟩ := bd h
  refine ok_callV (d := ((d + 4) + 3)) (mt := m12_namePlace) (mc := 0) (ms := 0) (As := [.int x1, .int x2]) (r := []) dX12_blursOf_3 mo12_namePlace mv12_namePlace lkRX12_309 rfl hZ0 (q := (RX12, TX12, 34)) rfl rfl rfl (Nat.le_of_ble_eq_true rfl) (by show _ + 1 ≤ d + _; omega) (Nat.le_refl _) (Nat.le_refl _) (pRt_mono ?_)
  refine k12_namePlace (d + 4) hW hZ0 hr2 ?_
  intro _
  show Ok g _ Qx 6 [(0, .ref a0), (1, .int x1), (2, .int x2), (3, .int x3)] [] (Z, r1, L, O)
  refine ok_aload_n dX12_blursOf_6 0 rfl ?_
  refine ok_iload_n dX12_blursOf_7 3 rfl ?_
  refine ok_aload_n dX12_blursOf_8 0 rfl ?_
  refine ok_iload_n dX12_blursOf_9 1 rfl ?_
  refine ok_iload_n dX12_blursOf_10 2 rfl ?_
  obtain ⟨r3, hr4, h⟩ := bd h
  refine ok_callV (d := ((d + 5) + 2)) (mt := m12_keyOf) (mc := 0) (ms := 0) (As := [.int x1, .int x2]) (r := [.int x3, .ref a0]) dX12_blursOf_11 mo12_keyOf mv12_keyOf lkRX12_87 rfl hZ0 (q := (RX12, TX12, 34)) rfl rfl rfl (Nat.le_of_ble_eq_true rfl) (by show _ + 1 ≤ d + _; omega) (Nat.le_refl _) (Nat.le_refl _) (pRt_mono ?_)
  refine k12_keyOf (d + 5) hW hZ0 hr4 ?_
  intro _
  show Ok g _ Qx 14 [(0, .ref a0), (1, .int x1), (2, .int x2), (3, .int x3)] [.int r3, .int x3, .ref a0] (Z, r1, L, O)
  obtain ⟨r5, hr6, h⟩ := bd h
  refine ok_callV (d := ((d + 4) + 3)) (mt := m12_nameChild) (mc := 0) (ms := 0) (As := [.int x3, .int r3]) (r := []) dX12_blursOf_14 mo12_nameChild mv12_nameChild lkRX12_312 rfl hZ0 (q := (RX12, TX12, 34)) rfl rfl rfl (Nat.le_of_ble_eq_true rfl) (by show _ + 1 ≤ d + _; omega) (Nat.le_refl _) (Nat.le_refl _) (pRt_mono ?_)
  refine k12_nameChild (d + 4) hW hZ0 hr6 ?_
  intro _
  show Ok g _ Qx 17 [(0, .ref a0), (1, .int x1), (2, .int x2), (3, .int x3)] [] (Z, r5, L, O)
  refine ok_aload_n dX12_blursOf_17 0 rfl ?_
  refine ok_aload_n dX12_blursOf_18 0 rfl ?_
  have hT7 : Z[(rO O a0 0)]? = some (13, 4371) := (wt_f (ci := 12) (k := 0) hW hZ0 rfl).2
  refine ok_getR (ci := 12) (k := 0) dX12_blursOf_19 flRX12_7 rfl hW hZ0 (by decide) ?_
  refine ok_iconst (v := 3) dX12_blursOf_22 (by decide) ?_
  refine ok_iald2 (N := 3) dX12_blursOf_23 hT7 (by unfold vp_in; decide) (by decide) ?_
  refine ok_iconst (v := 0) dX12_blursOf_24 (by decide) ?_
  refine ok_aload_n dX12_blursOf_25 0 rfl ?_
  refine ok_iload_n dX12_blursOf_26 1 rfl ?_
  refine ok_iload_n dX12_blursOf_27 2 rfl ?_
  obtain ⟨r8, hr9, h⟩ := bd h
  refine ok_callV (d := ((d + 5) + 2)) (mt := m12_wearOf) (mc := 0) (ms := 0) (As := [.int x1, .int x2]) (r := [.int 0, .int (r5 (rO O a0 0) 3), .ref a0]) dX12_blursOf_28 mo12_wearOf mv12_wearOf lkRX12_83 rfl hZ0 (q := (RX12, TX12, 34)) rfl rfl rfl (Nat.le_of_ble_eq_true rfl) (by show _ + 1 ≤ d + _; omega) (Nat.le_refl _) (Nat.le_refl _) (pRt_mono ?_)
  refine k12_wearOf (d + 5) hW hZ0 hr9 ?_
  intro _
  show Ok g _ Qx 31 [(0, .ref a0), (1, .int x1), (2, .int x2), (3, .int x3)] [.int r8, .int 0, .int (r5 (rO O a0 0) 3), .ref a0] (Z, r5, L, O)
  refine ok_iconst (v := 2) dX12_blursOf_31 (by decide) ?_
  refine ok_idiv dX12_blursOf_32 (by decide) ?_
  refine ok_bipush (v := 10) dX12_blursOf_33 (by decide) ?_
  obtain ⟨r10, hr11, h⟩ := bd h
  refine ok_callV (d := ((d + 0) + 7)) (mt := m12_says) (mc := 0) (ms := 0) (As := [.int (r5 (rO O a0 0) 3), .int 0, .int (r8 / 2), .int 10]) (r := []) dX12_blursOf_35 mo12_says mv12_says lkRX12_315 rfl hZ0 (q := (RX12, TX12, 34)) rfl rfl rfl (Nat.le_of_ble_eq_true rfl) (by show _ + 1 ≤ d + _; omega) (Nat.le_refl _) (Nat.le_refl _) (pRt_mono ?_)
  refine k12_says (d + 0) hW hZ0 hr11 ?_
  intro _
  show Ok g _ Qx 38 [(0, .ref a0), (1, .int x1), (2, .int x2), (3, .int x3)] [.int r10.1] (Z, r10.2.1, r10.2.2, O)
  cases h
  exact ok_iret dX12_blursOf_38 hQ
theorem k12_blursOf {g : pG} {Q : Option Value → pW → Prop} {Z : pZ} {I : (Nat → Nat → Int32)} {L : (Nat → Nat → Int64)} {O : (Nat → Nat → Option Nat)} {n : Nat} {a0 : Nat} {x1 : Int32} {x2 : Int32} {x3 : Int32} {res : Int32 × (Nat → Nat → Int32) × (Nat → Nat → Int64)} (d : Nat) (hW : WT Z O) (hZ0 : Z[a0]? = some (12, 34)) (h : f12_blursOf n I L O a0 x1 x2 x3 = some res) (hQ : Q (some (.int res.1)) (Z, res.2.1, res.2.2, O)) : CT g (d + 8) m12_blursOf 0 0 [.ref a0, .int x1, .int x2, .int x3] (Z, I, L, O) Q :=
  ct_of_ok (mt := m12_blursOf) (ini := false) mo12_blursOf.2.2.2.2 (fun h => by cases h) (Nat.le_of_ble_eq_true rfl) (o12_blursOf d hW hZ0 h ⟨trivial, hQ, rfl, rfl⟩)
theorem dX12_wearsOf_0 : decode cX12_wearsOf 0 = .ok (.aload_n 0, 1) := by decide +kernel
theorem dX12_wearsOf_1 : decode cX12_wearsOf 1 = .ok (.iload_n 1, 1) := by decide +kernel
theorem dX12_wearsOf_2 : decode cX12_wearsOf 2 = .ok (.iload_n 2, 1) := by decide +kernel
theorem dX12_wearsOf_3 : decode cX12_wearsOf 3 = .ok (.invokevirtual 309, 3) := by decide +kernel
theorem dX12_wearsOf_6 : decode cX12_wearsOf 6 = .ok (.aload_n 0, 1) := by decide +kernel
theorem dX12_wearsOf_7 : decode cX12_wearsOf 7 = .ok (.aload_n 0, 1) := by decide +kernel
theorem dX12_wearsOf_8 : decode cX12_wearsOf 8 = .ok (.getfield 7, 3) := by decide +kernel
theorem dX12_wearsOf_11 : decode cX12_wearsOf 11 = .ok (.iconst 3, 1) := by decide +kernel
theorem dX12_wearsOf_12 : decode cX12_wearsOf 12 = .ok (.iaload, 1) := by decide +kernel
theorem dX12_wearsOf_13 : decode cX12_wearsOf 13 = .ok (.iconst 2, 1) := by decide +kernel
theorem dX12_wearsOf_14 : decode cX12_wearsOf 14 = .ok (.iconst 1, 1) := by decide +kernel
theorem dX12_wearsOf_15 : decode cX12_wearsOf 15 = .ok (.bipush 9, 2) := by decide +kernel
theorem dX12_wearsOf_17 : decode cX12_wearsOf 17 = .ok (.invokevirtual 315, 3) := by decide +kernel
theorem dX12_wearsOf_20 : decode cX12_wearsOf 20 = .ok (.ireturn, 1) := by decide +kernel
def m12_wearsOf : pMT := (yX12_wearsOf, cX12_wearsOf, 3, some .int)
theorem mo12_wearsOf : mOK m12_wearsOf 2 := ⟨tb_i 1703 (by decide +kernel), wi_RX12, ⟨wn_RX12.1, wn_RX12.2, by decide +kernel⟩, by decide, plainFor_of_name wp_RX12⟩
theorem mv12_wearsOf : mV m12_wearsOf := ⟨tb_i 1702 (by decide +kernel), tb_p 105 (by decide +kernel)⟩
def f12_wearsOf (n : Nat) (I : (Nat → Nat → Int32)) (L : (Nat → Nat → Int64)) (O : (Nat → Nat → Option Nat)) (a0 : Nat) (x1 : Int32) (x2 : Int32) : Option (Int32 × (Nat → Nat → Int32) × (Nat → Nat → Int64)) := (f12_namePlace I O a0 x1 x2).bind fun r1 => (f12_says n r1 L O a0 (r1 (rO O a0 0) 3) (2 : Int32) (1 : Int32) (9 : Int32)).bind fun r4 => some (r4.1, r4.2.1, r4.2.2)
set_option maxHeartbeats 4000000 in
set_option maxRecDepth 20000 in
theorem o12_wearsOf {g : pG} {Qx : Option Value → pW → Prop} {Z : pZ} {I : (Nat → Nat → Int32)} {L : (Nat → Nat → Int64)} {O : (Nat → Nat → Option Nat)} {n : Nat} {a0 : Nat} {x1 : Int32} {x2 : Int32} {res : Int32 × (Nat → Nat → Int32) × (Nat → Nat → Int64)} (d : Nat) (hW : WT Z O) (hZ0 : Z[a0]? = some (12, 34)) (h : f12_wearsOf n I L O a0 x1 x2 = some res) (hQ : Qx (some (.int res.1)) (Z, res.2.1, res.2.2, O)) : Ok g (d + 8, RX12, cX12_wearsOf, 3, false, 0, 0, Z.length, pSl Z) Qx 0 [(0, .ref a0), (1, .int x1), (2, .int x2)] [] (Z, I, L, O) := by
  unfold f12_wearsOf at h
  refine ok_aload_n dX12_wearsOf_0 0 rfl ?_
  refine ok_iload_n dX12_wearsOf_1 1 rfl ?_
  refine ok_iload_n dX12_wearsOf_2 2 rfl ?_
  obtain ⟨r1, hr2, h⟩ := bd h
  refine ok_callV (d := ((d + 4) + 3)) (mt := m12_namePlace) (mc := 0) (ms := 0) (As := [.int x1, .int x2]) (r := []) dX12_wearsOf_3 mo12_namePlace mv12_namePlace lkRX12_309 rfl hZ0 (q := (RX12, TX12, 34)) rfl rfl rfl (Nat.le_of_ble_eq_true rfl) (by show _ + 1 ≤ d + _; omega) (Nat.le_refl _) (Nat.le_refl _) (pRt_mono ?_)
  refine k12_namePlace (d + 4) hW hZ0 hr2 ?_
  intro _
  show Ok g _ Qx 6 [(0, .ref a0), (1, .int x1), (2, .int x2)] [] (Z, r1, L, O)
  refine ok_aload_n dX12_wearsOf_6 0 rfl ?_
  refine ok_aload_n dX12_wearsOf_7 0 rfl ?_
  have hT3 : Z[(rO O a0 0)]? = some (13, 4371) := (wt_f (ci := 12) (k := 0) hW hZ0 rfl).2
  refine ok_getR (ci := 12) (k := 0) dX12_wearsOf_8 flRX12_7 rfl hW hZ0 (by decide) ?_
  refine ok_iconst (v := 3) dX12_wearsOf_11 (by decide) ?_
  refine ok_iald2 (N := 3) dX12_wearsOf_12 hT3 (by unfold vp_in; decide) (by decide) ?_
  refine ok_iconst (v := 2) dX12_wearsOf_13 (by decide) ?_
  refine ok_iconst (v := 1) dX12_wearsOf_14 (by decide) ?_
  refine ok_bipush (v := 9) dX12_wearsOf_15 (by decide) ?_
  obtain ⟨r4, hr5, h⟩ := bd h
  refine ok_callV (d := ((d + 0) + 7)) (mt := m12_says) (mc := 0) (ms := 0) (As := [.int (r1 (rO O a0 0) 3), .int 2, .int 1, .int 9]) (r := []) dX12_wearsOf_17 mo12_says mv12_says lkRX12_315 rfl hZ0 (q := (RX12, TX12, 34)) rfl rfl rfl (Nat.le_of_ble_eq_true rfl) (by show _ + 1 ≤ d + _; omega) (Nat.le_refl _) (Nat.le_refl _) (pRt_mono ?_)
  refine k12_says (d + 0) hW hZ0 hr5 ?_
  intro _
  show Ok g _ Qx 20 [(0, .ref a0), (1, .int x1), (2, .int x2)] [.int r4.1] (Z, r4.2.1, r4.2.2, O)
  cases h
  exact ok_iret dX12_wearsOf_20 hQ
theorem k12_wearsOf {g : pG} {Q : Option Value → pW → Prop} {Z : pZ} {I : (Nat → Nat → Int32)} {L : (Nat → Nat → Int64)} {O : (Nat → Nat → Option Nat)} {n : Nat} {a0 : Nat} {x1 : Int32} {x2 : Int32} {res : Int32 × (Nat → Nat → Int32) × (Nat → Nat → Int64)} (d : Nat) (hW : WT Z O) (hZ0 : Z[a0]? = some (12, 34)) (h : f12_wearsOf n I L O a0 x1 x2 = some res) (hQ : Q (some (.int res.1)) (Z, res.2.1, res.2.2, O)) : CT g (d + 8) m12_wearsOf 0 0 [.ref a0, .int x1, .int x2] (Z, I, L, O) Q :=
  ct_of_ok (mt := m12_wearsOf) (ini := false) mo12_wearsOf.2.2.2.2 (fun h => by cases h) (Nat.le_of_ble_eq_true rfl) (o12_wearsOf d hW hZ0 h ⟨trivial, hQ, rfl, rfl⟩)
theorem dX12_learnsOf_0 : decode cX12_learnsOf 0 = .ok (.aload_n 0, 1) := by decide +kernel
theorem dX12_learnsOf_1 : decode cX12_learnsOf 1 = .ok (.iload_n 2, 1) := by decide +kernel
theorem dX12_learnsOf_2 : decode cX12_learnsOf 2 = .ok (.iload_n 3, 1) := by decide +kernel
theorem dX12_learnsOf_3 : decode cX12_learnsOf 3 = .ok (.invokevirtual 312, 3) := by decide +kernel
theorem dX12_learnsOf_6 : decode cX12_learnsOf 6 = .ok (.aload_n 0, 1) := by decide +kernel
theorem dX12_learnsOf_7 : decode cX12_learnsOf 7 = .ok (.iload_n 1, 1) := by decide +kernel
theorem dX12_learnsOf_8 : decode cX12_learnsOf 8 = .ok (.iconst 1, 1) := by decide +kernel
theorem dX12_learnsOf_9 : decode cX12_learnsOf 9 = .ok (.iconst 3, 1) := by decide +kernel
theorem dX12_learnsOf_10 : decode cX12_learnsOf 10 = .ok (.bipush 99, 2) := by decide +kernel
theorem dX12_learnsOf_12 : decode cX12_learnsOf 12 = .ok (.invokevirtual 315, 3) := by decide +kernel
theorem dX12_learnsOf_15 : decode cX12_learnsOf 15 = .ok (.ireturn, 1) := by decide +kernel
def m12_learnsOf : pMT := (yX12_learnsOf, cX12_learnsOf, 4, some .int)
theorem mo12_learnsOf : mOK m12_learnsOf 3 := ⟨tb_i 1772 (by decide +kernel), wi_RX12, ⟨wn_RX12.1, wn_RX12.2, by decide +kernel⟩, by decide, plainFor_of_name wp_RX12⟩
theorem mv12_learnsOf : mV m12_learnsOf := ⟨tb_i 1771 (by decide +kernel), tb_p 115 (by decide +kernel)⟩
def f12_learnsOf (n : Nat) (I : (Nat → Nat → Int32)) (L : (Nat → Nat → Int64)) (O : (Nat → Nat → Option Nat)) (a0 : Nat) (x1 : Int32) (x2 : Int32) (x3 : Int32) : Option (Int32 × (Nat → Nat → Int32) × (Nat → Nat → Int64)) := (f12_nameChild I O a0 x2 x3).bind fun r1 => (f12_says n r1 L O a0 x1 (1 : Int32) (3 : Int32) (99 : Int32)).bind fun r3 => some (r3.1, r3.2.1, r3.2.2)
set_option maxHeartbeats 4000000 in
set_option maxRecDepth 20000 in
theorem o12_learnsOf {g : pG} {Qx : Option Value → pW → Prop} {Z : pZ} {I : (Nat → Nat → Int32)} {L : (Nat → Nat → Int64)} {O : (Nat → Nat → Option Nat)} {n : Nat} {a0 : Nat} {x1 : Int32} {x2 : Int32} {x3 : Int32} {res : Int32 × (Nat → Nat → Int32) × (Nat → Nat → Int64)} (d : Nat) (hW : WT Z O) (hZ0 : Z[a0]? = some (12, 34)) (h : f12_learnsOf n I L O a0 x1 x2 x3 = some res) (hQ : Qx (some (.int res.1)) (Z, res.2.1, res.2.2, O)) : Ok g (d + 8, RX12, cX12_learnsOf, 4, false, 0, 0, Z.length, pSl Z) Qx 0 [(0, .ref a0), (1, .int x1), (2, .int x2), (3, .int x3)] [] (Z, I, L, O) := by
  unfold f12_learnsOf at h
  refine ok_aload_n dX12_learnsOf_0 0 rfl ?_
  refine ok_iload_n dX12_learnsOf_1 2 rfl ?_
  refine ok_iload_n dX12_learnsOf_2 3 rfl ?_
  obtain ⟨r1, hr2, h⟩ := bd h
  refine ok_callV (d := ((d + 4) + 3)) (mt := m12_nameChild) (mc := 0) (ms := 0) (As := [.int x2, .int x3]) (r := []) dX12_learnsOf_3 mo12_nameChild mv12_nameChild lkRX12_312 rfl hZ0 (q := (RX12, TX12, 34)) rfl rfl rfl (Nat.le_of_ble_eq_true rfl) (by show _ + 1 ≤ d + _; omega) (Nat.le_refl _) (Nat.le_refl _) (pRt_mono ?_)
  refine k12_nameChild (d + 4) hW hZ0 hr2 ?_
  intro _
  show Ok g _ Qx 6 [(0, .ref a0), (1, .int x1), (2, .int x2), (3, .int x3)] [] (Z, r1, L, O)
  refine ok_aload_n dX12_learnsOf_6 0 rfl ?_
  refine ok_iload_n dX12_learnsOf_7 1 rfl ?_
  refine ok_iconst (v := 1) dX12_learnsOf_8 (by decide) ?_
  refine ok_iconst (v := 3) dX12_learnsOf_9 (by decide) ?_
  refine ok_bipush (v := 99) dX12_learnsOf_10 (by decide) ?_
  obtain ⟨r3, hr4, h⟩ := bd h
  refine ok_callV (d := ((d + 0) + 7)) (mt := m12_says) (mc := 0) (ms := 0) (As := [.int x1, .int 1, .int 3, .int 99]) (r := []) dX12_learnsOf_12 mo12_says mv12_says lkRX12_315 rfl hZ0 (q := (RX12, TX12, 34)) rfl rfl rfl (Nat.le_of_ble_eq_true rfl) (by show _ + 1 ≤ d + _; omega) (Nat.le_refl _) (Nat.le_refl _) (pRt_mono ?_)
  refine k12_says (d + 0) hW hZ0 hr4 ?_
  intro _
  show Ok g _ Qx 15 [(0, .ref a0), (1, .int x1), (2, .int x2), (3, .int x3)] [.int r3.1] (Z, r3.2.1, r3.2.2, O)
  cases h
  exact ok_iret dX12_learnsOf_15 hQ
theorem k12_learnsOf {g : pG} {Q : Option Value → pW → Prop} {Z : pZ} {I : (Nat → Nat → Int32)} {L : (Nat → Nat → Int64)} {O : (Nat → Nat → Option Nat)} {n : Nat} {a0 : Nat} {x1 : Int32} {x2 : Int32} {x3 : Int32} {res : Int32 × (Nat → Nat → Int32) × (Nat → Nat → Int64)} (d : Nat) (hW : WT Z O) (hZ0 : Z[a0]? = some (12, 34)) (h : f12_learnsOf n I L O a0 x1 x2 x3 = some res) (hQ : Q (some (.int res.1)) (Z, res.2.1, res.2.2, O)) : CT g (d + 8) m12_learnsOf 0 0 [.ref a0, .int x1, .int x2, .int x3] (Z, I, L, O) Q :=
  ct_of_ok (mt := m12_learnsOf) (ini := false) mo12_learnsOf.2.2.2.2 (fun h => by cases h) (Nat.le_of_ble_eq_true rfl) (o12_learnsOf d hW hZ0 h ⟨trivial, hQ, rfl, rfl⟩)
theorem dX12_isLearnt_0 : decode cX12_isLearnt 0 = .ok (.aload_n 0, 1) := by decide +kernel
theorem dX12_isLearnt_1 : decode cX12_isLearnt 1 = .ok (.iload_n 1, 1) := by decide +kernel
theorem dX12_isLearnt_2 : decode cX12_isLearnt 2 = .ok (.iload_n 2, 1) := by decide +kernel
theorem dX12_isLearnt_3 : decode cX12_isLearnt 3 = .ok (.invokevirtual 306, 3) := by decide +kernel
theorem dX12_isLearnt_6 : decode cX12_isLearnt 6 = .ok (.ifCond .le 28, 3) := by decide +kernel
theorem dX12_isLearnt_9 : decode cX12_isLearnt 9 = .ok (.aload_n 0, 1) := by decide +kernel
theorem dX12_isLearnt_10 : decode cX12_isLearnt 10 = .ok (.iload_n 1, 1) := by decide +kernel
theorem dX12_isLearnt_11 : decode cX12_isLearnt 11 = .ok (.iload_n 2, 1) := by decide +kernel
theorem dX12_isLearnt_12 : decode cX12_isLearnt 12 = .ok (.invokevirtual 306, 3) := by decide +kernel
theorem dX12_isLearnt_15 : decode cX12_isLearnt 15 = .ok (.aload_n 0, 1) := by decide +kernel
theorem dX12_isLearnt_16 : decode cX12_isLearnt 16 = .ok (.aload_n 0, 1) := by decide +kernel
theorem dX12_isLearnt_17 : decode cX12_isLearnt 17 = .ok (.getfield 7, 3) := by decide +kernel
theorem dX12_isLearnt_20 : decode cX12_isLearnt 20 = .ok (.iconst 3, 1) := by decide +kernel
theorem dX12_isLearnt_21 : decode cX12_isLearnt 21 = .ok (.iaload, 1) := by decide +kernel
theorem dX12_isLearnt_22 : decode cX12_isLearnt 22 = .ok (.iload_n 1, 1) := by decide +kernel
theorem dX12_isLearnt_23 : decode cX12_isLearnt 23 = .ok (.iload_n 2, 1) := by decide +kernel
theorem dX12_isLearnt_24 : decode cX12_isLearnt 24 = .ok (.invokevirtual 319, 3) := by decide +kernel
theorem dX12_isLearnt_27 : decode cX12_isLearnt 27 = .ok (.if_icmp .lt 7, 3) := by decide +kernel
theorem dX12_isLearnt_30 : decode cX12_isLearnt 30 = .ok (.iconst 1, 1) := by decide +kernel
theorem dX12_isLearnt_31 : decode cX12_isLearnt 31 = .ok (.goto 4, 3) := by decide +kernel
theorem dX12_isLearnt_34 : decode cX12_isLearnt 34 = .ok (.iconst 0, 1) := by decide +kernel
theorem dX12_isLearnt_35 : decode cX12_isLearnt 35 = .ok (.ireturn, 1) := by decide +kernel
def m12_isLearnt : pMT := (yX12_isLearnt, cX12_isLearnt, 3, some .boolean)
theorem mo12_isLearnt : mOK m12_isLearnt 2 := ⟨tb_i 1768 (by decide +kernel), wi_RX12, ⟨wn_RX12.1, wn_RX12.2, by decide +kernel⟩, by decide, plainFor_of_name wp_RX12⟩
theorem mv12_isLearnt : mV m12_isLearnt := ⟨tb_i 1767 (by decide +kernel), tb_p 114 (by decide +kernel)⟩
def f12_isLearnt (n : Nat) (I : (Nat → Nat → Int32)) (L : (Nat → Nat → Int64)) (O : (Nat → Nat → Option Nat)) (a0 : Nat) (x1 : Int32) (x2 : Int32) : Option (Int32 × (Nat → Nat → Int32) × (Nat → Nat → Int64)) := (f12_heardBy I O a0 x1 x2).bind fun r1 => (if r1 ≤ 0 then some ((0 : Int32), I, L) else (f12_heardBy I O a0 x1 x2).bind fun r4 => (f12_learnsOf n I L O a0 (I (rO O a0 0) 3) x1 x2).bind fun r7 => (if r4 < r7.1 then some ((0 : Int32), r7.2.1, r7.2.2) else some ((1 : Int32), r7.2.1, r7.2.2)))
set_option maxHeartbeats 4000000 in
set_option maxRecDepth 20000 in
theorem o12_isLearnt {g : pG} {Qx : Option Value → pW → Prop} {Z : pZ} {I : (Nat → Nat → Int32)} {L : (Nat → Nat → Int64)} {O : (Nat → Nat → Option Nat)} {n : Nat} {a0 : Nat} {x1 : Int32} {x2 : Int32} {res : Int32 × (Nat → Nat → Int32) × (Nat → Nat → Int64)} (d : Nat) (hW : WT Z O) (hZ0 : Z[a0]? = some (12, 34)) (h : f12_isLearnt n I L O a0 x1 x2 = some res) (hQ : (res.1 = 0 ∨ res.1 = 1) → Qx (some (.int res.1)) (Z, res.2.1, res.2.2, O)) : Ok g (d + 9, RX12, cX12_isLearnt, 3, false, 0, 0, Z.length, pSl Z) Qx 0 [(0, .ref a0), (1, .int x1), (2, .int x2)] [] (Z, I, L, O) := by
  unfold f12_isLearnt at h
  refine ok_aload_n dX12_isLearnt_0 0 rfl ?_
  refine ok_iload_n dX12_isLearnt_1 1 rfl ?_
  refine ok_iload_n dX12_isLearnt_2 2 rfl ?_
  obtain ⟨r1, hr2, h⟩ := bd h
  refine ok_callV (d := ((d + 6) + 2)) (mt := m12_heardBy) (mc := 0) (ms := 0) (As := [.int x1, .int x2]) (r := []) dX12_isLearnt_3 mo12_heardBy mv12_heardBy lkRX12_306 rfl hZ0 (q := (RX12, TX12, 34)) rfl rfl rfl (Nat.le_of_ble_eq_true rfl) (by show _ + 1 ≤ d + _; omega) (Nat.le_refl _) (Nat.le_refl _) (pRt_mono ?_)
  refine k12_heardBy (d + 6) hW hZ0 hr2 ?_
  intro _
  show Ok g _ Qx 6 [(0, .ref a0), (1, .int x1), (2, .int x2)] [.int r1] (Z, I, L, O)
  refine ok_if_le (t := 34) dX12_isLearnt_6 (by decide) (fun hc3 => ?_) (fun hc3 => ?_)
  · have h := (if_pos hc3).symm.trans h
    refine ok_iconst (v := 0) dX12_isLearnt_34 (by decide) ?_
    cases h
    exact ok_iret dX12_isLearnt_35 (hQ (Or.inl rfl))
  · have h := (if_neg hc3).symm.trans h
    refine ok_aload_n dX12_isLearnt_9 0 rfl ?_
    refine ok_iload_n dX12_isLearnt_10 1 rfl ?_
    refine ok_iload_n dX12_isLearnt_11 2 rfl ?_
    obtain ⟨r4, hr5, h⟩ := bd h
    refine ok_callV (d := ((d + 6) + 2)) (mt := m12_heardBy) (mc := 0) (ms := 0) (As := [.int x1, .int x2]) (r := []) dX12_isLearnt_12 mo12_heardBy mv12_heardBy lkRX12_306 rfl hZ0 (q := (RX12, TX12, 34)) rfl rfl rfl (Nat.le_of_ble_eq_true rfl) (by show _ + 1 ≤ d + _; omega) (Nat.le_refl _) (Nat.le_refl _) (pRt_mono ?_)
    refine k12_heardBy (d + 6) hW hZ0 hr5 ?_
    intro _
    show Ok g _ Qx 15 [(0, .ref a0), (1, .int x1), (2, .int x2)] [.int r4] (Z, I, L, O)
    refine ok_aload_n dX12_isLearnt_15 0 rfl ?_
    refine ok_aload_n dX12_isLearnt_16 0 rfl ?_
    have hT6 : Z[(rO O a0 0)]? = some (13, 4371) := (wt_f (ci := 12) (k := 0) hW hZ0 rfl).2
    refine ok_getR (ci := 12) (k := 0) dX12_isLearnt_17 flRX12_7 rfl hW hZ0 (by decide) ?_
    refine ok_iconst (v := 3) dX12_isLearnt_20 (by decide) ?_
    refine ok_iald2 (N := 3) dX12_isLearnt_21 hT6 (by unfold vp_in; decide) (by decide) ?_
    refine ok_iload_n dX12_isLearnt_22 1 rfl ?_
    refine ok_iload_n dX12_isLearnt_23 2 rfl ?_
    obtain ⟨r7, hr8, h⟩ := bd h
    refine ok_callV (d := ((d + 0) + 8)) (mt := m12_learnsOf) (mc := 0) (ms := 0) (As := [.int (I (rO O a0 0) 3), .int x1, .int x2]) (r := [.int r4]) dX12_isLearnt_24 mo12_learnsOf mv12_learnsOf lkRX12_319 rfl hZ0 (q := (RX12, TX12, 34)) rfl rfl rfl (Nat.le_of_ble_eq_true rfl) (by show _ + 1 ≤ d + _; omega) (Nat.le_refl _) (Nat.le_refl _) (pRt_mono ?_)
    refine k12_learnsOf (d + 0) hW hZ0 hr8 ?_
    intro _
    show Ok g _ Qx 27 [(0, .ref a0), (1, .int x1), (2, .int x2)] [.int r7.1, .int r4] (Z, r7.2.1, r7.2.2, O)
    refine ok_icmp_lt (t := 34) dX12_isLearnt_27 (by decide) (fun hc9 => ?_) (fun hc9 => ?_)
    · have h := (if_pos hc9).symm.trans h
      refine ok_iconst (v := 0) dX12_isLearnt_34 (by decide) ?_
      cases h
      exact ok_iret dX12_isLearnt_35 (hQ (Or.inl rfl))
    · have h := (if_neg hc9).symm.trans h
      refine ok_iconst (v := 1) dX12_isLearnt_30 (by decide) ?_
      refine ok_goto (t := 35) dX12_isLearnt_31 (by decide) ?_
      cases h
      exact ok_iret dX12_isLearnt_35 (hQ (Or.inr rfl))
theorem k12_isLearnt {g : pG} {Q : Option Value → pW → Prop} {Z : pZ} {I : (Nat → Nat → Int32)} {L : (Nat → Nat → Int64)} {O : (Nat → Nat → Option Nat)} {n : Nat} {a0 : Nat} {x1 : Int32} {x2 : Int32} {res : Int32 × (Nat → Nat → Int32) × (Nat → Nat → Int64)} (d : Nat) (hW : WT Z O) (hZ0 : Z[a0]? = some (12, 34)) (h : f12_isLearnt n I L O a0 x1 x2 = some res) (hQ : Q (some (.int res.1)) (Z, res.2.1, res.2.2, O)) : CT g (d + 9) m12_isLearnt 0 0 [.ref a0, .int x1, .int x2] (Z, I, L, O) Q :=
  ct_of_ok (mt := m12_isLearnt) (ini := false) mo12_isLearnt.2.2.2.2 (fun h => by cases h) (Nat.le_of_ble_eq_true rfl) (o12_isLearnt d hW hZ0 h (fun hb => ⟨hb, hQ, rfl, rfl⟩))
theorem dX12_write_0 : decode cX12_write 0 = .ok (.aload_n 0, 1) := by decide +kernel
theorem dX12_write_1 : decode cX12_write 1 = .ok (.getfield 43, 3) := by decide +kernel
theorem dX12_write_4 : decode cX12_write 4 = .ok (.ifCond .ne 4, 3) := by decide +kernel
theorem dX12_write_7 : decode cX12_write 7 = .ok (.return_, 1) := by decide +kernel
theorem dX12_write_8 : decode cX12_write 8 = .ok (.aload_n 0, 1) := by decide +kernel
theorem dX12_write_9 : decode cX12_write 9 = .ok (.getfield 7, 3) := by decide +kernel
theorem dX12_write_12 : decode cX12_write 12 = .ok (.bipush 9, 2) := by decide +kernel
theorem dX12_write_14 : decode cX12_write 14 = .ok (.iaload, 1) := by decide +kernel
theorem dX12_write_15 : decode cX12_write 15 = .ok (.bipush 30, 2) := by decide +kernel
theorem dX12_write_17 : decode cX12_write 17 = .ok (.if_icmp .ne 54, 3) := by decide +kernel
theorem dX12_write_20 : decode cX12_write 20 = .ok (.iconst 1, 1) := by decide +kernel
theorem dX12_write_21 : decode cX12_write 21 = .ok (.istore 4, 2) := by decide +kernel
theorem dX12_write_23 : decode cX12_write 23 = .ok (.iload 4, 2) := by decide +kernel
theorem dX12_write_25 : decode cX12_write 25 = .ok (.bipush 30, 2) := by decide +kernel
theorem dX12_write_27 : decode cX12_write 27 = .ok (.if_icmp .ge 33, 3) := by decide +kernel
theorem dX12_write_30 : decode cX12_write 30 = .ok (.aload_n 0, 1) := by decide +kernel
theorem dX12_write_31 : decode cX12_write 31 = .ok (.getfield 7, 3) := by decide +kernel
theorem dX12_write_34 : decode cX12_write 34 = .ok (.sipush 4341, 3) := by decide +kernel
theorem dX12_write_37 : decode cX12_write 37 = .ok (.iload 4, 2) := by decide +kernel
theorem dX12_write_39 : decode cX12_write 39 = .ok (.iadd, 1) := by decide +kernel
theorem dX12_write_40 : decode cX12_write 40 = .ok (.iconst 1, 1) := by decide +kernel
theorem dX12_write_41 : decode cX12_write 41 = .ok (.isub, 1) := by decide +kernel
theorem dX12_write_42 : decode cX12_write 42 = .ok (.aload_n 0, 1) := by decide +kernel
theorem dX12_write_43 : decode cX12_write 43 = .ok (.getfield 7, 3) := by decide +kernel
theorem dX12_write_46 : decode cX12_write 46 = .ok (.sipush 4341, 3) := by decide +kernel
theorem dX12_write_49 : decode cX12_write 49 = .ok (.iload 4, 2) := by decide +kernel
theorem dX12_write_51 : decode cX12_write 51 = .ok (.iadd, 1) := by decide +kernel
theorem dX12_write_52 : decode cX12_write 52 = .ok (.iaload, 1) := by decide +kernel
theorem dX12_write_53 : decode cX12_write 53 = .ok (.iastore, 1) := by decide +kernel
theorem dX12_write_54 : decode cX12_write 54 = .ok (.iinc 4 1, 3) := by decide +kernel
theorem dX12_write_57 : decode cX12_write 57 = .ok (.goto (-34), 3) := by decide +kernel
theorem dX12_write_60 : decode cX12_write 60 = .ok (.aload_n 0, 1) := by decide +kernel
theorem dX12_write_61 : decode cX12_write 61 = .ok (.getfield 7, 3) := by decide +kernel
theorem dX12_write_64 : decode cX12_write 64 = .ok (.bipush 9, 2) := by decide +kernel
theorem dX12_write_66 : decode cX12_write 66 = .ok (.dup2, 1) := by decide +kernel
theorem dX12_write_67 : decode cX12_write 67 = .ok (.iaload, 1) := by decide +kernel
theorem dX12_write_68 : decode cX12_write 68 = .ok (.iconst 1, 1) := by decide +kernel
theorem dX12_write_69 : decode cX12_write 69 = .ok (.isub, 1) := by decide +kernel
theorem dX12_write_70 : decode cX12_write 70 = .ok (.iastore, 1) := by decide +kernel
theorem dX12_write_71 : decode cX12_write 71 = .ok (.aload_n 0, 1) := by decide +kernel
theorem dX12_write_72 : decode cX12_write 72 = .ok (.getfield 7, 3) := by decide +kernel
theorem dX12_write_75 : decode cX12_write 75 = .ok (.sipush 4341, 3) := by decide +kernel
theorem dX12_write_78 : decode cX12_write 78 = .ok (.aload_n 0, 1) := by decide +kernel
theorem dX12_write_79 : decode cX12_write 79 = .ok (.getfield 7, 3) := by decide +kernel
theorem dX12_write_82 : decode cX12_write 82 = .ok (.bipush 9, 2) := by decide +kernel
theorem dX12_write_84 : decode cX12_write 84 = .ok (.iaload, 1) := by decide +kernel
theorem dX12_write_85 : decode cX12_write 85 = .ok (.iadd, 1) := by decide +kernel
theorem dX12_write_86 : decode cX12_write 86 = .ok (.aload_n 0, 1) := by decide +kernel
theorem dX12_write_87 : decode cX12_write 87 = .ok (.getfield 7, 3) := by decide +kernel
theorem dX12_write_90 : decode cX12_write 90 = .ok (.bipush 7, 2) := by decide +kernel
theorem dX12_write_92 : decode cX12_write 92 = .ok (.iaload, 1) := by decide +kernel
theorem dX12_write_93 : decode cX12_write 93 = .ok (.iconst 5, 1) := by decide +kernel
theorem dX12_write_94 : decode cX12_write 94 = .ok (.imul, 1) := by decide +kernel
theorem dX12_write_95 : decode cX12_write 95 = .ok (.iload_n 1, 1) := by decide +kernel
theorem dX12_write_96 : decode cX12_write 96 = .ok (.iadd, 1) := by decide +kernel
theorem dX12_write_97 : decode cX12_write 97 = .ok (.iconst 4, 1) := by decide +kernel
theorem dX12_write_98 : decode cX12_write 98 = .ok (.imul, 1) := by decide +kernel
theorem dX12_write_99 : decode cX12_write 99 = .ok (.iload_n 2, 1) := by decide +kernel
theorem dX12_write_100 : decode cX12_write 100 = .ok (.iadd, 1) := by decide +kernel
theorem dX12_write_101 : decode cX12_write 101 = .ok (.bipush 17, 2) := by decide +kernel
theorem dX12_write_103 : decode cX12_write 103 = .ok (.imul, 1) := by decide +kernel
theorem dX12_write_104 : decode cX12_write 104 = .ok (.iload_n 3, 1) := by decide +kernel
theorem dX12_write_105 : decode cX12_write 105 = .ok (.iadd, 1) := by decide +kernel
theorem dX12_write_106 : decode cX12_write 106 = .ok (.iastore, 1) := by decide +kernel
theorem dX12_write_107 : decode cX12_write 107 = .ok (.aload_n 0, 1) := by decide +kernel
theorem dX12_write_108 : decode cX12_write 108 = .ok (.getfield 7, 3) := by decide +kernel
theorem dX12_write_111 : decode cX12_write 111 = .ok (.bipush 9, 2) := by decide +kernel
theorem dX12_write_113 : decode cX12_write 113 = .ok (.dup2, 1) := by decide +kernel
theorem dX12_write_114 : decode cX12_write 114 = .ok (.iaload, 1) := by decide +kernel
theorem dX12_write_115 : decode cX12_write 115 = .ok (.iconst 1, 1) := by decide +kernel
theorem dX12_write_116 : decode cX12_write 116 = .ok (.iadd, 1) := by decide +kernel
theorem dX12_write_117 : decode cX12_write 117 = .ok (.iastore, 1) := by decide +kernel
theorem dX12_write_118 : decode cX12_write 118 = .ok (.return_, 1) := by decide +kernel
def m12_write : pMT := (yX12_write, cX12_write, 5, none)
theorem mo12_write : mOK m12_write 3 := ⟨tb_i 1707 (by decide +kernel), wi_RX12, ⟨wn_RX12.1, wn_RX12.2, by decide +kernel⟩, by decide, plainFor_of_name wp_RX12⟩
theorem mv12_write : mV m12_write := ⟨tb_i 1706 (by decide +kernel), tb_p 106 (by decide +kernel)⟩
def f12_write_c71 (n : Nat) (O : (Nat → Nat → Option Nat)) (I : (Nat → Nat → Int32)) (b0 : Nat) (y1 : Int32) (y2 : Int32) (y3 : Int32) : Option ((Nat → Nat → Int32)) := (if ((4341 : Int32) + (I (rO O b0 0) 9)) < 0 ∨ 4371 ≤ ((4341 : Int32) + (I (rO O b0 0) 9)).toNatClampNeg then none else bl (sI I (rO O b0 0) ((4341 : Int32) + (I (rO O b0 0) 9)).toNatClampNeg (((((((I (rO O b0 0) 7) * 5) + y1) * 4) + y2) * 17) + y3)) fun I3 => bl (sI I3 (rO O b0 0) 9 ((I3 (rO O b0 0) 9) + 1)) fun I4 => some (I4))
set_option maxHeartbeats 4000000 in
set_option maxRecDepth 20000 in
theorem o12_write_c71 {g : pG} {Qx : Option Value → pW → Prop} {Z : pZ} {L : (Nat → Nat → Int64)} {O : (Nat → Nat → Option Nat)} {n : Nat} {res : (Nat → Nat → Int32)} (d : Nat) (hW : WT Z O) (hQ : Qx none (Z, res, L, O)) (I : (Nat → Nat → Int32)) (b0 : Nat) (y1 : Int32) (y2 : Int32) (y3 : Int32) (hZ_b0 : Z[b0]? = some (12, 34)) (h : f12_write_c71 n O I b0 y1 y2 y3 = some res) : Ok g (d + 2, RX12, cX12_write, 5, false, 0, 0, Z.length, pSl Z) Qx 71 [(0, .ref b0), (1, .int y1), (2, .int y2), (3, .int y3)] [] (Z, I, L, O) := by
  unfold f12_write_c71 at h
  refine ok_aload_n dX12_write_71 0 rfl ?_
  have hT1 : Z[(rO O b0 0)]? = some (13, 4371) := (wt_f (ci := 12) (k := 0) hW hZ_b0 rfl).2
  refine ok_getR (ci := 12) (k := 0) dX12_write_72 flRX12_7 rfl hW hZ_b0 (by decide) ?_
  refine ok_sipush (v := 4341) dX12_write_75 (by decide) ?_
  refine ok_aload_n dX12_write_78 0 rfl ?_
  refine ok_getR (ci := 12) (k := 0) dX12_write_79 flRX12_7 rfl hW hZ_b0 (by decide) ?_
  refine ok_bipush (v := 9) dX12_write_82 (by decide) ?_
  refine ok_iald2 (N := 9) dX12_write_84 hT1 (by unfold vp_in; decide) (by decide) ?_
  refine ok_iadd dX12_write_85 ?_
  refine ok_aload_n dX12_write_86 0 rfl ?_
  refine ok_getR (ci := 12) (k := 0) dX12_write_87 flRX12_7 rfl hW hZ_b0 (by decide) ?_
  refine ok_bipush (v := 7) dX12_write_90 (by decide) ?_
  refine ok_iald2 (N := 7) dX12_write_92 hT1 (by unfold vp_in; decide) (by decide) ?_
  refine ok_iconst (v := 5) dX12_write_93 (by decide) ?_
  refine ok_imul dX12_write_94 ?_
  refine ok_iload_n dX12_write_95 1 rfl ?_
  refine ok_iadd dX12_write_96 ?_
  refine ok_iconst (v := 4) dX12_write_97 (by decide) ?_
  refine ok_imul dX12_write_98 ?_
  refine ok_iload_n dX12_write_99 2 rfl ?_
  refine ok_iadd dX12_write_100 ?_
  refine ok_bipush (v := 17) dX12_write_101 (by decide) ?_
  refine ok_imul dX12_write_103 ?_
  refine ok_iload_n dX12_write_104 3 rfl ?_
  refine ok_iadd dX12_write_105 ?_
  obtain ⟨hg2, h⟩ := gd h
  obtain ⟨I3, eI3, h⟩ := blE h
  refine ok_iast3 dX12_write_106 hT1 hg2 rfl eI3 ?_
  refine ok_aload_n dX12_write_107 0 rfl ?_
  refine ok_getR (ci := 12) (k := 0) dX12_write_108 flRX12_7 rfl hW hZ_b0 (by decide) ?_
  refine ok_bipush (v := 9) dX12_write_111 (by decide) ?_
  refine ok_dup2 dX12_write_113 rfl rfl ?_
  refine ok_iald2 (N := 9) dX12_write_114 hT1 (by unfold vp_in; decide) (by decide) ?_
  refine ok_iconst (v := 1) dX12_write_115 (by decide) ?_
  refine ok_iadd dX12_write_116 ?_
  obtain ⟨I4, eI4, h⟩ := blE h
  refine ok_iast3 dX12_write_117 hT1 (by unfold vp_in; decide) (by decide) eI4 ?_
  cases h
  exact ok_vret dX12_write_118 hQ
def f12_write_c23 (n : Nat) (O : (Nat → Nat → Option Nat)) : Nat → (Nat → Nat → Int32) → Nat → Int32 → Int32 → Int32 → Int32 → Option ((Nat → Nat → Int32))
  | 0, _, _, _, _, _, _ => none
  | m + 1, I, b0, y1, y2, y3, y4 => (if (30 : Int32) ≤ y4 then bl (sI I (rO O b0 0) 9 ((I (rO O b0 0) 9) - 1)) fun I3 => f12_write_c71 n O I3 b0 y1 y2 y3 else (if ((4341 : Int32) + y4) < 0 ∨ 4371 ≤ ((4341 : Int32) + y4).toNatClampNeg then none else (if (((4341 : Int32) + y4) - 1) < 0 ∨ 4371 ≤ (((4341 : Int32) + y4) - 1).toNatClampNeg then none else bl (sI I (rO O b0 0) (((4341 : Int32) + y4) - 1).toNatClampNeg (I (rO O b0 0) ((4341 : Int32) + y4).toNatClampNeg)) fun I7 => f12_write_c23 n O m I7 b0 y1 y2 y3 (y4 + 1))))
set_option maxHeartbeats 4000000 in
set_option maxRecDepth 20000 in
theorem o12_write_c23 {g : pG} {Qx : Option Value → pW → Prop} {Z : pZ} {L : (Nat → Nat → Int64)} {O : (Nat → Nat → Option Nat)} {n : Nat} {res : (Nat → Nat → Int32)} (d : Nat) (hW : WT Z O) (hQ : Qx none (Z, res, L, O)) : ∀ (m : Nat) (I : (Nat → Nat → Int32)) (b0 : Nat) (y1 : Int32) (y2 : Int32) (y3 : Int32) (y4 : Int32), (Z[b0]? = some (12, 34)) → f12_write_c23 n O m I b0 y1 y2 y3 y4 = some res → Ok g (d + 2, RX12, cX12_write, 5, false, 0, 0, Z.length, pSl Z) Qx 23 [(0, .ref b0), (1, .int y1), (2, .int y2), (3, .int y3), (4, .int y4)] [] (Z, I, L, O) := by
  intro m
  induction m with
  | zero => intro I b0 y1 y2 y3 y4 hZ_b0 h; rw [f12_write_c23] at h; cases h
  | succ m ih =>
    intro I b0 y1 y2 y3 y4 hZ_b0 h
    rw [f12_write_c23] at h
    refine ok_iload dX12_write_23 4 rfl ?_
    refine ok_bipush (v := 30) dX12_write_25 (by decide) ?_
    refine ok_icmp_ge (t := 60) dX12_write_27 (by decide) (fun hc1 => ?_) (fun hc1 => ?_)
    · have h := (if_pos hc1).symm.trans h
      refine ok_aload_n dX12_write_60 0 rfl ?_
      have hT2 : Z[(rO O b0 0)]? = some (13, 4371) := (wt_f (ci := 12) (k := 0) hW hZ_b0 rfl).2
      refine ok_getR (ci := 12) (k := 0) dX12_write_61 flRX12_7 rfl hW hZ_b0 (by decide) ?_
      refine ok_bipush (v := 9) dX12_write_64 (by decide) ?_
      refine ok_dup2 dX12_write_66 rfl rfl ?_
      refine ok_iald2 (N := 9) dX12_write_67 hT2 (by unfold vp_in; decide) (by decide) ?_
      refine ok_iconst (v := 1) dX12_write_68 (by decide) ?_
      refine ok_isub dX12_write_69 ?_
      obtain ⟨I3, eI3, h⟩ := blE h
      refine ok_iast3 dX12_write_70 hT2 (by unfold vp_in; decide) (by decide) eI3 ?_
      refine ok_sub [0, 1, 2, 3] rfl ?_
      exact o12_write_c71 d hW hQ  I3 b0 y1 y2 y3 hZ_b0 h
    · have h := (if_neg hc1).symm.trans h
      refine ok_aload_n dX12_write_30 0 rfl ?_
      have hT4 : Z[(rO O b0 0)]? = some (13, 4371) := (wt_f (ci := 12) (k := 0) hW hZ_b0 rfl).2
      refine ok_getR (ci := 12) (k := 0) dX12_write_31 flRX12_7 rfl hW hZ_b0 (by decide) ?_
      refine ok_sipush (v := 4341) dX12_write_34 (by decide) ?_
      refine ok_iload dX12_write_37 4 rfl ?_
      refine ok_iadd dX12_write_39 ?_
      refine ok_iconst (v := 1) dX12_write_40 (by decide) ?_
      refine ok_isub dX12_write_41 ?_
      refine ok_aload_n dX12_write_42 0 rfl ?_
      refine ok_getR (ci := 12) (k := 0) dX12_write_43 flRX12_7 rfl hW hZ_b0 (by decide) ?_
      refine ok_sipush (v := 4341) dX12_write_46 (by decide) ?_
      refine ok_iload dX12_write_49 4 rfl ?_
      refine ok_iadd dX12_write_51 ?_
      obtain ⟨hg5, h⟩ := gd h
      refine ok_iald2 (N := ((4341 : Int32) + y4).toNatClampNeg) dX12_write_52 hT4 hg5 rfl ?_
      obtain ⟨hg6, h⟩ := gd h
      obtain ⟨I7, eI7, h⟩ := blE h
      refine ok_iast3 dX12_write_53 hT4 hg6 rfl eI7 ?_
      refine ok_iinc (u := (y4 + 1)) (l' := [(4, .int (y4 + 1)), (0, .ref b0), (1, .int y1), (2, .int y2), (3, .int y3)]) dX12_write_54 4 rfl rfl (Nat.le_of_ble_eq_true rfl) rfl ?_
      refine ok_goto (t := 23) dX12_write_57 (by decide) ?_
      refine ok_sub [1, 2, 3, 4, 0] rfl ?_
      exact ih I7 b0 y1 y2 y3 (y4 + 1) hZ_b0 h
def f12_write (n : Nat) (I : (Nat → Nat → Int32)) (O : (Nat → Nat → Option Nat)) (a0 : Nat) (x1 : Int32) (x2 : Int32) (x3 : Int32) : Option ((Nat → Nat → Int32)) := (if (I a0 23) = 0 then some (I) else (if (I (rO O a0 0) 9) = (30 : Int32) then f12_write_c23 n O n I a0 x1 x2 x3 (1 : Int32) else f12_write_c71 n O I a0 x1 x2 x3))
set_option maxHeartbeats 4000000 in
set_option maxRecDepth 20000 in
theorem o12_write {g : pG} {Qx : Option Value → pW → Prop} {Z : pZ} {I : (Nat → Nat → Int32)} {L : (Nat → Nat → Int64)} {O : (Nat → Nat → Option Nat)} {n : Nat} {a0 : Nat} {x1 : Int32} {x2 : Int32} {x3 : Int32} {res : (Nat → Nat → Int32)} (d : Nat) (hW : WT Z O) (hZ0 : Z[a0]? = some (12, 34)) (h : f12_write n I O a0 x1 x2 x3 = some res) (hQ : Qx none (Z, res, L, O)) : Ok g (d + 2, RX12, cX12_write, 5, false, 0, 0, Z.length, pSl Z) Qx 0 [(0, .ref a0), (1, .int x1), (2, .int x2), (3, .int x3)] [] (Z, I, L, O) := by
  unfold f12_write at h
  refine ok_aload_n dX12_write_0 0 rfl ?_
  refine ok_getI (ci := 12) (k := 23) dX12_write_1 flRX12_43 rfl hZ0 (by decide) ?_
  refine ok_if_ne (t := 8) dX12_write_4 (by decide) (fun hc1 => ?_) (fun hc1 => ?_)
  · have h := (if_neg hc1).symm.trans h
    refine ok_aload_n dX12_write_8 0 rfl ?_
    have hT2 : Z[(rO O a0 0)]? = some (13, 4371) := (wt_f (ci := 12) (k := 0) hW hZ0 rfl).2
    refine ok_getR (ci := 12) (k := 0) dX12_write_9 flRX12_7 rfl hW hZ0 (by decide) ?_
    refine ok_bipush (v := 9) dX12_write_12 (by decide) ?_
    refine ok_iald2 (N := 9) dX12_write_14 hT2 (by unfold vp_in; decide) (by decide) ?_
    refine ok_bipush (v := 30) dX12_write_15 (by decide) ?_
    refine ok_icmp_ne (t := 71) dX12_write_17 (by decide) (fun hc3 => ?_) (fun hc3 => ?_)
    · have h := (if_neg hc3).symm.trans h
      refine ok_sub [0, 1, 2, 3] rfl ?_
      exact o12_write_c71 d hW hQ  I a0 x1 x2 x3 hZ0 h
    · have h := (if_pos hc3).symm.trans h
      refine ok_iconst (v := 1) dX12_write_20 (by decide) ?_
      refine ok_istore (l' := [(4, .int 1), (0, .ref a0), (1, .int x1), (2, .int x2), (3, .int x3)]) dX12_write_21 (Nat.le_of_ble_eq_true rfl) rfl ?_
      refine ok_sub [1, 2, 3, 4, 0] rfl ?_
      exact o12_write_c23 d hW hQ  n I a0 x1 x2 x3 (1 : Int32) hZ0 h
  · have h := (if_pos hc1).symm.trans h
    cases h
    exact ok_vret dX12_write_7 hQ
theorem k12_write {g : pG} {Q : Option Value → pW → Prop} {Z : pZ} {I : (Nat → Nat → Int32)} {L : (Nat → Nat → Int64)} {O : (Nat → Nat → Option Nat)} {n : Nat} {a0 : Nat} {x1 : Int32} {x2 : Int32} {x3 : Int32} {res : (Nat → Nat → Int32)} (d : Nat) (hW : WT Z O) (hZ0 : Z[a0]? = some (12, 34)) (h : f12_write n I O a0 x1 x2 x3 = some res) (hQ : Q none (Z, res, L, O)) : CT g (d + 2) m12_write 0 0 [.ref a0, .int x1, .int x2, .int x3] (Z, I, L, O) Q :=
  ct_of_ok (mt := m12_write) (ini := false) mo12_write.2.2.2.2 (fun h => by cases h) (Nat.le_of_ble_eq_true rfl) (o12_write d hW hZ0 h ⟨trivial, hQ, rfl, rfl⟩)
theorem dX12_anew_0 : decode cX12_anew 0 = .ok (.aload_n 0, 1) := by decide +kernel
theorem dX12_anew_1 : decode cX12_anew 1 = .ok (.getfield 7, 3) := by decide +kernel
theorem dX12_anew_4 : decode cX12_anew 4 = .ok (.bipush 8, 2) := by decide +kernel
theorem dX12_anew_6 : decode cX12_anew 6 = .ok (.aload_n 0, 1) := by decide +kernel
theorem dX12_anew_7 : decode cX12_anew 7 = .ok (.getfield 7, 3) := by decide +kernel
theorem dX12_anew_10 : decode cX12_anew 10 = .ok (.bipush 8, 2) := by decide +kernel
theorem dX12_anew_12 : decode cX12_anew 12 = .ok (.iaload, 1) := by decide +kernel
theorem dX12_anew_13 : decode cX12_anew 13 = .ok (.i2l, 1) := by decide +kernel
theorem dX12_anew_14 : decode cX12_anew 14 = .ok (.ldc2_w 325, 3) := by decide +kernel
theorem dX12_anew_17 : decode cX12_anew 17 = .ok (.lmul, 1) := by decide +kernel
theorem dX12_anew_18 : decode cX12_anew 18 = .ok (.ldc2_w 327, 3) := by decide +kernel
theorem dX12_anew_21 : decode cX12_anew 21 = .ok (.ladd, 1) := by decide +kernel
theorem dX12_anew_22 : decode cX12_anew 22 = .ok (.ldc2_w 329, 3) := by decide +kernel
theorem dX12_anew_25 : decode cX12_anew 25 = .ok (.lrem, 1) := by decide +kernel
theorem dX12_anew_26 : decode cX12_anew 26 = .ok (.l2i, 1) := by decide +kernel
theorem dX12_anew_27 : decode cX12_anew 27 = .ok (.iastore, 1) := by decide +kernel
theorem dX12_anew_28 : decode cX12_anew 28 = .ok (.return_, 1) := by decide +kernel
def m12_anew : pMT := (yX12_anew, cX12_anew, 1, none)
theorem mo12_anew : mOK m12_anew 0 := ⟨tb_i 1696 (by decide +kernel), wi_RX12, ⟨wn_RX12.1, wn_RX12.2, by decide +kernel⟩, by decide, plainFor_of_name wp_RX12⟩
theorem mv12_anew : mV m12_anew := ⟨tb_i 1695 (by decide +kernel), tb_p 104 (by decide +kernel)⟩
def f12_anew (I : (Nat → Nat → Int32)) (O : (Nat → Nat → Option Nat)) (a0 : Nat) : Option ((Nat → Nat → Int32)) := bl (sI I (rO O a0 0) 8 ((((I (rO O a0 0) 8).toInt64 * 509) + 397) - (((I (rO O a0 0) 8).toInt64 * 509) + 397) / 30697 * 30697).toInt32) fun I2 => some (I2)
set_option maxHeartbeats 4000000 in
set_option maxRecDepth 20000 in
theorem o12_anew {g : pG} {Qx : Option Value → pW → Prop} {Z : pZ} {I : (Nat → Nat → Int32)} {L : (Nat → Nat → Int64)} {O : (Nat → Nat → Option Nat)} {a0 : Nat} {res : (Nat → Nat → Int32)} (d : Nat) (hW : WT Z O) (hZ0 : Z[a0]? = some (12, 34)) (h : f12_anew I O a0 = some res) (hQ : Qx none (Z, res, L, O)) : Ok g (d + 2, RX12, cX12_anew, 1, false, 0, 0, Z.length, pSl Z) Qx 0 [(0, .ref a0)] [] (Z, I, L, O) := by
  unfold f12_anew at h
  refine ok_aload_n dX12_anew_0 0 rfl ?_
  have hT1 : Z[(rO O a0 0)]? = some (13, 4371) := (wt_f (ci := 12) (k := 0) hW hZ0 rfl).2
  refine ok_getR (ci := 12) (k := 0) dX12_anew_1 flRX12_7 rfl hW hZ0 (by decide) ?_
  refine ok_bipush (v := 8) dX12_anew_4 (by decide) ?_
  refine ok_aload_n dX12_anew_6 0 rfl ?_
  refine ok_getR (ci := 12) (k := 0) dX12_anew_7 flRX12_7 rfl hW hZ0 (by decide) ?_
  refine ok_bipush (v := 8) dX12_anew_10 (by decide) ?_
  refine ok_iald2 (N := 8) dX12_anew_12 hT1 (by unfold vp_in; decide) (by decide) ?_
  refine ok_i2l dX12_anew_13 ?_
  refine ok_ldc2 (v := 509) dX12_anew_14 (tb_i (c := Cond.constantLong RX12 325 (509)) 1697 (by decide +kernel)) ?_
  refine ok_lmul dX12_anew_17 ?_
  refine ok_ldc2 (v := 397) dX12_anew_18 (tb_i (c := Cond.constantLong RX12 327 (397)) 1698 (by decide +kernel)) ?_
  refine ok_ladd dX12_anew_21 ?_
  refine ok_ldc2 (v := 30697) dX12_anew_22 (tb_i (c := Cond.constantLong RX12 329 (30697)) 1699 (by decide +kernel)) ?_
  refine ok_lrem dX12_anew_25 (by decide) ?_
  refine ok_l2i dX12_anew_26 ?_
  obtain ⟨I2, eI2, h⟩ := blE h
  refine ok_iast3 dX12_anew_27 hT1 (by unfold vp_in; decide) (by decide) eI2 ?_
  cases h
  exact ok_vret dX12_anew_28 hQ
theorem k12_anew {g : pG} {Q : Option Value → pW → Prop} {Z : pZ} {I : (Nat → Nat → Int32)} {L : (Nat → Nat → Int64)} {O : (Nat → Nat → Option Nat)} {a0 : Nat} {res : (Nat → Nat → Int32)} (d : Nat) (hW : WT Z O) (hZ0 : Z[a0]? = some (12, 34)) (h : f12_anew I O a0 = some res) (hQ : Q none (Z, res, L, O)) : CT g (d + 2) m12_anew 0 0 [.ref a0] (Z, I, L, O) Q :=
  ct_of_ok (mt := m12_anew) (ini := false) mo12_anew.2.2.2.2 (fun h => by cases h) (Nat.le_of_ble_eq_true rfl) (o12_anew d hW hZ0 h ⟨trivial, hQ, rfl, rfl⟩)
theorem dX12_drawnBy_0 : decode cX12_drawnBy 0 = .ok (.aload_n 0, 1) := by decide +kernel
theorem dX12_drawnBy_1 : decode cX12_drawnBy 1 = .ok (.getfield 7, 3) := by decide +kernel
theorem dX12_drawnBy_4 : decode cX12_drawnBy 4 = .ok (.bipush 8, 2) := by decide +kernel
theorem dX12_drawnBy_6 : decode cX12_drawnBy 6 = .ok (.iaload, 1) := by decide +kernel
theorem dX12_drawnBy_7 : decode cX12_drawnBy 7 = .ok (.iload_n 1, 1) := by decide +kernel
theorem dX12_drawnBy_8 : decode cX12_drawnBy 8 = .ok (.irem, 1) := by decide +kernel
theorem dX12_drawnBy_9 : decode cX12_drawnBy 9 = .ok (.istore_n 2, 1) := by decide +kernel
theorem dX12_drawnBy_10 : decode cX12_drawnBy 10 = .ok (.aload_n 0, 1) := by decide +kernel
theorem dX12_drawnBy_11 : decode cX12_drawnBy 11 = .ok (.invokevirtual 322, 3) := by decide +kernel
theorem dX12_drawnBy_14 : decode cX12_drawnBy 14 = .ok (.iload_n 2, 1) := by decide +kernel
theorem dX12_drawnBy_15 : decode cX12_drawnBy 15 = .ok (.ireturn, 1) := by decide +kernel
def m12_drawnBy : pMT := (yX12_drawnBy, cX12_drawnBy, 3, some .int)
theorem mo12_drawnBy : mOK m12_drawnBy 1 := ⟨tb_i 1692 (by decide +kernel), wi_RX12, ⟨wn_RX12.1, wn_RX12.2, by decide +kernel⟩, by decide, plainFor_of_name wp_RX12⟩
theorem mv12_drawnBy : mV m12_drawnBy := ⟨tb_i 1691 (by decide +kernel), tb_p 103 (by decide +kernel)⟩
def f12_drawnBy (I : (Nat → Nat → Int32)) (O : (Nat → Nat → Option Nat)) (a0 : Nat) (x1 : Int32) : Option (Int32 × (Nat → Nat → Int32)) := if x1 = 0 then none else bl (((I (rO O a0 0) 8) - (I (rO O a0 0) 8) / x1 * x1) : Int32) fun z3 => (f12_anew I O a0).bind fun r4 => some (z3, r4)
set_option maxHeartbeats 4000000 in
set_option maxRecDepth 20000 in
theorem o12_drawnBy {g : pG} {Qx : Option Value → pW → Prop} {Z : pZ} {I : (Nat → Nat → Int32)} {L : (Nat → Nat → Int64)} {O : (Nat → Nat → Option Nat)} {a0 : Nat} {x1 : Int32} {res : Int32 × (Nat → Nat → Int32)} (d : Nat) (hW : WT Z O) (hZ0 : Z[a0]? = some (12, 34)) (h : f12_drawnBy I O a0 x1 = some res) (hQ : Qx (some (.int res.1)) (Z, res.2, L, O)) : Ok g (d + 3, RX12, cX12_drawnBy, 3, false, 0, 0, Z.length, pSl Z) Qx 0 [(0, .ref a0), (1, .int x1)] [] (Z, I, L, O) := by
  unfold f12_drawnBy at h
  refine ok_aload_n dX12_drawnBy_0 0 rfl ?_
  have hT1 : Z[(rO O a0 0)]? = some (13, 4371) := (wt_f (ci := 12) (k := 0) hW hZ0 rfl).2
  refine ok_getR (ci := 12) (k := 0) dX12_drawnBy_1 flRX12_7 rfl hW hZ0 (by decide) ?_
  refine ok_bipush (v := 8) dX12_drawnBy_4 (by decide) ?_
  refine ok_iald2 (N := 8) dX12_drawnBy_6 hT1 (by unfold vp_in; decide) (by decide) ?_
  refine ok_iload_n dX12_drawnBy_7 1 rfl ?_
  obtain ⟨hg2, h⟩ := gd h
  refine ok_irem dX12_drawnBy_8 hg2 ?_
  obtain ⟨z3, ez3, h⟩ := blE h
  refine ok_nm ez3 ?_
  refine ok_istore_n (l' := [(2, .int z3), (0, .ref a0), (1, .int x1)]) dX12_drawnBy_9 rfl (Nat.le_of_ble_eq_true rfl) rfl ?_
  refine ok_aload_n dX12_drawnBy_10 1 rfl ?_
  obtain ⟨r4, hr5, h⟩ := bd h
  refine ok_callV (d := ((d + 0) + 2)) (mt := m12_anew) (mc := 0) (ms := 0) (As := []) (r := []) dX12_drawnBy_11 mo12_anew mv12_anew lkRX12_322 rfl hZ0 (q := (RX12, TX12, 34)) rfl rfl rfl (Nat.le_of_ble_eq_true rfl) (by show _ + 1 ≤ d + _; omega) (Nat.le_refl _) (Nat.le_refl _) (pRt_mono ?_)
  refine k12_anew (d + 0) hW hZ0 hr5 ?_
  intro _
  show Ok g _ Qx 14 [(2, .int z3), (0, .ref a0), (1, .int x1)] [] (Z, r4, L, O)
  refine ok_iload_n dX12_drawnBy_14 0 rfl ?_
  cases h
  exact ok_iret dX12_drawnBy_15 hQ
theorem k12_drawnBy {g : pG} {Q : Option Value → pW → Prop} {Z : pZ} {I : (Nat → Nat → Int32)} {L : (Nat → Nat → Int64)} {O : (Nat → Nat → Option Nat)} {a0 : Nat} {x1 : Int32} {res : Int32 × (Nat → Nat → Int32)} (d : Nat) (hW : WT Z O) (hZ0 : Z[a0]? = some (12, 34)) (h : f12_drawnBy I O a0 x1 = some res) (hQ : Q (some (.int res.1)) (Z, res.2, L, O)) : CT g (d + 3) m12_drawnBy 0 0 [.ref a0, .int x1] (Z, I, L, O) Q :=
  ct_of_ok (mt := m12_drawnBy) (ini := false) mo12_drawnBy.2.2.2.2 (fun h => by cases h) (Nat.le_of_ble_eq_true rfl) (o12_drawnBy d hW hZ0 h ⟨trivial, hQ, rfl, rfl⟩)
theorem dX12_playNow_0 : decode cX12_playNow 0 = .ok (.iconst 0, 1) := by decide +kernel
theorem dX12_playNow_1 : decode cX12_playNow 1 = .ok (.istore_n 3, 1) := by decide +kernel
theorem dX12_playNow_2 : decode cX12_playNow 2 = .ok (.iconst 0, 1) := by decide +kernel
theorem dX12_playNow_3 : decode cX12_playNow 3 = .ok (.istore 4, 2) := by decide +kernel
theorem dX12_playNow_5 : decode cX12_playNow 5 = .ok (.iload 4, 2) := by decide +kernel
theorem dX12_playNow_7 : decode cX12_playNow 7 = .ok (.aload_n 0, 1) := by decide +kernel
theorem dX12_playNow_8 : decode cX12_playNow 8 = .ok (.getfield 7, 3) := by decide +kernel
theorem dX12_playNow_11 : decode cX12_playNow 11 = .ok (.bipush 114, 2) := by decide +kernel
theorem dX12_playNow_13 : decode cX12_playNow 13 = .ok (.iload_n 1, 1) := by decide +kernel
theorem dX12_playNow_14 : decode cX12_playNow 14 = .ok (.iadd, 1) := by decide +kernel
theorem dX12_playNow_15 : decode cX12_playNow 15 = .ok (.iaload, 1) := by decide +kernel
theorem dX12_playNow_16 : decode cX12_playNow 16 = .ok (.if_icmp .ge 123, 3) := by decide +kernel
theorem dX12_playNow_19 : decode cX12_playNow 19 = .ok (.aload_n 0, 1) := by decide +kernel
theorem dX12_playNow_20 : decode cX12_playNow 20 = .ok (.iload_n 1, 1) := by decide +kernel
theorem dX12_playNow_21 : decode cX12_playNow 21 = .ok (.iload 4, 2) := by decide +kernel
theorem dX12_playNow_23 : decode cX12_playNow 23 = .ok (.invokevirtual 331, 3) := by decide +kernel
theorem dX12_playNow_26 : decode cX12_playNow 26 = .ok (.ifCond .ne 6, 3) := by decide +kernel
theorem dX12_playNow_29 : decode cX12_playNow 29 = .ok (.goto 104, 3) := by decide +kernel
theorem dX12_playNow_32 : decode cX12_playNow 32 = .ok (.aload_n 0, 1) := by decide +kernel
theorem dX12_playNow_33 : decode cX12_playNow 33 = .ok (.iload_n 1, 1) := by decide +kernel
theorem dX12_playNow_34 : decode cX12_playNow 34 = .ok (.iload 4, 2) := by decide +kernel
theorem dX12_playNow_36 : decode cX12_playNow 36 = .ok (.iload_n 2, 1) := by decide +kernel
theorem dX12_playNow_37 : decode cX12_playNow 37 = .ok (.invokevirtual 334, 3) := by decide +kernel
theorem dX12_playNow_40 : decode cX12_playNow 40 = .ok (.istore 5, 2) := by decide +kernel
theorem dX12_playNow_42 : decode cX12_playNow 42 = .ok (.bipush 90, 2) := by decide +kernel
theorem dX12_playNow_44 : decode cX12_playNow 44 = .ok (.bipush 6, 2) := by decide +kernel
theorem dX12_playNow_46 : decode cX12_playNow 46 = .ok (.iload_n 2, 1) := by decide +kernel
theorem dX12_playNow_47 : decode cX12_playNow 47 = .ok (.imul, 1) := by decide +kernel
theorem dX12_playNow_48 : decode cX12_playNow 48 = .ok (.iadd, 1) := by decide +kernel
theorem dX12_playNow_49 : decode cX12_playNow 49 = .ok (.aload_n 0, 1) := by decide +kernel
theorem dX12_playNow_50 : decode cX12_playNow 50 = .ok (.iload_n 1, 1) := by decide +kernel
theorem dX12_playNow_51 : decode cX12_playNow 51 = .ok (.iload 4, 2) := by decide +kernel
theorem dX12_playNow_53 : decode cX12_playNow 53 = .ok (.invokevirtual 87, 3) := by decide +kernel
theorem dX12_playNow_56 : decode cX12_playNow 56 = .ok (.iadd, 1) := by decide +kernel
theorem dX12_playNow_57 : decode cX12_playNow 57 = .ok (.istore 6, 2) := by decide +kernel
theorem dX12_playNow_59 : decode cX12_playNow 59 = .ok (.aload_n 0, 1) := by decide +kernel
theorem dX12_playNow_60 : decode cX12_playNow 60 = .ok (.bipush 10, 2) := by decide +kernel
theorem dX12_playNow_62 : decode cX12_playNow 62 = .ok (.invokevirtual 337, 3) := by decide +kernel
theorem dX12_playNow_65 : decode cX12_playNow 65 = .ok (.iload 5, 2) := by decide +kernel
theorem dX12_playNow_67 : decode cX12_playNow 67 = .ok (.if_icmp .lt 29, 3) := by decide +kernel
theorem dX12_playNow_70 : decode cX12_playNow 70 = .ok (.iinc 3 1, 3) := by decide +kernel
theorem dX12_playNow_73 : decode cX12_playNow 73 = .ok (.aload_n 0, 1) := by decide +kernel
theorem dX12_playNow_74 : decode cX12_playNow 74 = .ok (.getfield 7, 3) := by decide +kernel
theorem dX12_playNow_77 : decode cX12_playNow 77 = .ok (.iload 6, 2) := by decide +kernel
theorem dX12_playNow_79 : decode cX12_playNow 79 = .ok (.aload_n 0, 1) := by decide +kernel
theorem dX12_playNow_80 : decode cX12_playNow 80 = .ok (.getfield 7, 3) := by decide +kernel
theorem dX12_playNow_83 : decode cX12_playNow 83 = .ok (.iload 6, 2) := by decide +kernel
theorem dX12_playNow_85 : decode cX12_playNow 85 = .ok (.iaload, 1) := by decide +kernel
theorem dX12_playNow_86 : decode cX12_playNow 86 = .ok (.iconst 1, 1) := by decide +kernel
theorem dX12_playNow_87 : decode cX12_playNow 87 = .ok (.iadd, 1) := by decide +kernel
theorem dX12_playNow_88 : decode cX12_playNow 88 = .ok (.i2l, 1) := by decide +kernel
theorem dX12_playNow_89 : decode cX12_playNow 89 = .ok (.iconst 0, 1) := by decide +kernel
theorem dX12_playNow_90 : decode cX12_playNow 90 = .ok (.bipush 99, 2) := by decide +kernel
theorem dX12_playNow_92 : decode cX12_playNow 92 = .ok (.invokestatic 302, 3) := by decide +kernel
theorem dX12_playNow_95 : decode cX12_playNow 95 = .ok (.iastore, 1) := by decide +kernel
theorem dX12_playNow_96 : decode cX12_playNow 96 = .ok (.aload_n 0, 1) := by decide +kernel
theorem dX12_playNow_97 : decode cX12_playNow 97 = .ok (.getfield 7, 3) := by decide +kernel
theorem dX12_playNow_100 : decode cX12_playNow 100 = .ok (.bipush 10, 2) := by decide +kernel
theorem dX12_playNow_102 : decode cX12_playNow 102 = .ok (.bipush 16, 2) := by decide +kernel
theorem dX12_playNow_104 : decode cX12_playNow 104 = .ok (.iload_n 1, 1) := by decide +kernel
theorem dX12_playNow_105 : decode cX12_playNow 105 = .ok (.imul, 1) := by decide +kernel
theorem dX12_playNow_106 : decode cX12_playNow 106 = .ok (.iadd, 1) := by decide +kernel
theorem dX12_playNow_107 : decode cX12_playNow 107 = .ok (.iload 4, 2) := by decide +kernel
theorem dX12_playNow_109 : decode cX12_playNow 109 = .ok (.iadd, 1) := by decide +kernel
theorem dX12_playNow_110 : decode cX12_playNow 110 = .ok (.aload_n 0, 1) := by decide +kernel
theorem dX12_playNow_111 : decode cX12_playNow 111 = .ok (.iload_n 1, 1) := by decide +kernel
theorem dX12_playNow_112 : decode cX12_playNow 112 = .ok (.iload 4, 2) := by decide +kernel
theorem dX12_playNow_114 : decode cX12_playNow 114 = .ok (.invokevirtual 83, 3) := by decide +kernel
theorem dX12_playNow_117 : decode cX12_playNow 117 = .ok (.aload_n 0, 1) := by decide +kernel
theorem dX12_playNow_118 : decode cX12_playNow 118 = .ok (.iload_n 1, 1) := by decide +kernel
theorem dX12_playNow_119 : decode cX12_playNow 119 = .ok (.iload 4, 2) := by decide +kernel
theorem dX12_playNow_121 : decode cX12_playNow 121 = .ok (.invokevirtual 340, 3) := by decide +kernel
theorem dX12_playNow_124 : decode cX12_playNow 124 = .ok (.iadd, 1) := by decide +kernel
theorem dX12_playNow_125 : decode cX12_playNow 125 = .ok (.i2l, 1) := by decide +kernel
theorem dX12_playNow_126 : decode cX12_playNow 126 = .ok (.iconst 0, 1) := by decide +kernel
theorem dX12_playNow_127 : decode cX12_playNow 127 = .ok (.bipush 9, 2) := by decide +kernel
theorem dX12_playNow_129 : decode cX12_playNow 129 = .ok (.invokestatic 302, 3) := by decide +kernel
theorem dX12_playNow_132 : decode cX12_playNow 132 = .ok (.iastore, 1) := by decide +kernel
theorem dX12_playNow_133 : decode cX12_playNow 133 = .ok (.iinc 4 1, 3) := by decide +kernel
theorem dX12_playNow_136 : decode cX12_playNow 136 = .ok (.goto (-131), 3) := by decide +kernel
theorem dX12_playNow_139 : decode cX12_playNow 139 = .ok (.aload_n 0, 1) := by decide +kernel
theorem dX12_playNow_140 : decode cX12_playNow 140 = .ok (.dup, 1) := by decide +kernel
theorem dX12_playNow_141 : decode cX12_playNow 141 = .ok (.getfield 343, 3) := by decide +kernel
theorem dX12_playNow_144 : decode cX12_playNow 144 = .ok (.iload_n 3, 1) := by decide +kernel
theorem dX12_playNow_145 : decode cX12_playNow 145 = .ok (.iadd, 1) := by decide +kernel
theorem dX12_playNow_146 : decode cX12_playNow 146 = .ok (.putfield 343, 3) := by decide +kernel
theorem dX12_playNow_149 : decode cX12_playNow 149 = .ok (.aload_n 0, 1) := by decide +kernel
theorem dX12_playNow_150 : decode cX12_playNow 150 = .ok (.iload_n 1, 1) := by decide +kernel
theorem dX12_playNow_151 : decode cX12_playNow 151 = .ok (.iload_n 2, 1) := by decide +kernel
theorem dX12_playNow_152 : decode cX12_playNow 152 = .ok (.iload_n 3, 1) := by decide +kernel
theorem dX12_playNow_153 : decode cX12_playNow 153 = .ok (.invokevirtual 346, 3) := by decide +kernel
theorem dX12_playNow_156 : decode cX12_playNow 156 = .ok (.return_, 1) := by decide +kernel
def m12_playNow : pMT := (yX12_playNow, cX12_playNow, 7, none)
theorem mo12_playNow : mOK m12_playNow 2 := ⟨tb_i 1615 (by decide +kernel), wi_RX12, ⟨wn_RX12.1, wn_RX12.2, by decide +kernel⟩, by decide, plainFor_of_name wp_RX12⟩
theorem mv12_playNow : mV m12_playNow := ⟨tb_i 1614 (by decide +kernel), tb_p 89 (by decide +kernel)⟩
def f12_playNow_c96 (n : Nat) (O : (Nat → Nat → Option Nat)) (k5 : ((Nat → Nat → Int32) → (Nat → Nat → Int64) → Nat → Int32 → Int32 → Int32 → Int32 → Option ((Nat → Nat → Int32) × (Nat → Nat → Int64)))) (I : (Nat → Nat → Int32)) (L : (Nat → Nat → Int64)) (b0 : Nat) (y1 : Int32) (y2 : Int32) (y3 : Int32) (y4 : Int32) : Option ((Nat → Nat → Int32) × (Nat → Nat → Int64)) := (f12_wearOf I O b0 y1 y4).bind fun r2 => (f12_wearsOf n I L O b0 y1 y4).bind fun r4 => (f12_cut (r2 + r4.1).toInt64 (0 : Int32) (9 : Int32)).bind fun r6 => (if (((10 : Int32) + ((16 : Int32) * y1)) + y4) < 0 ∨ 4371 ≤ (((10 : Int32) + ((16 : Int32) * y1)) + y4).toNatClampNeg then none else bl (sI r4.2.1 (rO O b0 0) (((10 : Int32) + ((16 : Int32) * y1)) + y4).toNatClampNeg r6) fun I9 => k5 I9 r4.2.2 b0 y1 y2 y3 (y4 + 1))
set_option maxHeartbeats 4000000 in
set_option maxRecDepth 20000 in
theorem o12_playNow_c96 {g : pG} {Qx : Option Value → pW → Prop} {Z : pZ} {O : (Nat → Nat → Option Nat)} {n : Nat} {k5 : ((Nat → Nat → Int32) → (Nat → Nat → Int64) → Nat → Int32 → Int32 → Int32 → Int32 → Option ((Nat → Nat → Int32) × (Nat → Nat → Int64)))} {res : (Nat → Nat → Int32) × (Nat → Nat → Int64)} (d : Nat) (hW : WT Z O) (hQ : Qx none (Z, res.1, res.2, O)) (hk5 : ∀ (I : (Nat → Nat → Int32)) (L : (Nat → Nat → Int64)) (b0 : Nat) (y1 : Int32) (y2 : Int32) (y3 : Int32) (y4 : Int32), (Z[b0]? = some (12, 34)) → k5 I L b0 y1 y2 y3 y4 = some res → Ok g (d + 9, RX12, cX12_playNow, 7, false, 0, 0, Z.length, pSl Z) Qx 5 [(0, .ref b0), (1, .int y1), (2, .int y2), (3, .int y3), (4, .int y4)] [] (Z, I, L, O)) (I : (Nat → Nat → Int32)) (L : (Nat → Nat → Int64)) (b0 : Nat) (y1 : Int32) (y2 : Int32) (y3 : Int32) (y4 : Int32) (hZ_b0 : Z[b0]? = some (12, 34)) (h : f12_playNow_c96 n O k5 I L b0 y1 y2 y3 y4 = some res) : Ok g (d + 9, RX12, cX12_playNow, 7, false, 0, 0, Z.length, pSl Z) Qx 96 [(0, .ref b0), (1, .int y1), (2, .int y2), (3, .int y3), (4, .int y4)] [] (Z, I, L, O) := by
  unfold f12_playNow_c96 at h
  refine ok_aload_n dX12_playNow_96 0 rfl ?_
  have hT1 : Z[(rO O b0 0)]? = some (13, 4371) := (wt_f (ci := 12) (k := 0) hW hZ_b0 rfl).2
  refine ok_getR (ci := 12) (k := 0) dX12_playNow_97 flRX12_7 rfl hW hZ_b0 (by decide) ?_
  refine ok_bipush (v := 10) dX12_playNow_100 (by decide) ?_
  refine ok_bipush (v := 16) dX12_playNow_102 (by decide) ?_
  refine ok_iload_n dX12_playNow_104 1 rfl ?_
  refine ok_imul dX12_playNow_105 ?_
  refine ok_iadd dX12_playNow_106 ?_
  refine ok_iload dX12_playNow_107 4 rfl ?_
  refine ok_iadd dX12_playNow_109 ?_
  refine ok_aload_n dX12_playNow_110 0 rfl ?_
  refine ok_iload_n dX12_playNow_111 1 rfl ?_
  refine ok_iload dX12_playNow_112 4 rfl ?_
  obtain ⟨r2, hr3, h⟩ := bd h
  refine ok_callV (d := ((d + 6) + 2)) (mt := m12_wearOf) (mc := 0) (ms := 0) (As := [.int y1, .int y4]) (r := [.int (((10 : Int32) + ((16 : Int32) * y1)) + y4), .ref (rO O b0 0)]) dX12_playNow_114 mo12_wearOf mv12_wearOf lkRX12_83 rfl hZ_b0 (q := (RX12, TX12, 34)) rfl rfl rfl (Nat.le_of_ble_eq_true rfl) (by show _ + 1 ≤ d + _; omega) (Nat.le_refl _) (Nat.le_refl _) (pRt_mono ?_)
  refine k12_wearOf (d + 6) hW hZ_b0 hr3 ?_
  intro _
  show Ok g _ Qx 117 [(0, .ref b0), (1, .int y1), (2, .int y2), (3, .int y3), (4, .int y4)] [.int r2, .int (((10 : Int32) + ((16 : Int32) * y1)) + y4), .ref (rO O b0 0)] (Z, I, L, O)
  refine ok_aload_n dX12_playNow_117 0 rfl ?_
  refine ok_iload_n dX12_playNow_118 1 rfl ?_
  refine ok_iload dX12_playNow_119 4 rfl ?_
  obtain ⟨r4, hr5, h⟩ := bd h
  refine ok_callV (d := ((d + 0) + 8)) (mt := m12_wearsOf) (mc := 0) (ms := 0) (As := [.int y1, .int y4]) (r := [.int r2, .int (((10 : Int32) + ((16 : Int32) * y1)) + y4), .ref (rO O b0 0)]) dX12_playNow_121 mo12_wearsOf mv12_wearsOf lkRX12_340 rfl hZ_b0 (q := (RX12, TX12, 34)) rfl rfl rfl (Nat.le_of_ble_eq_true rfl) (by show _ + 1 ≤ d + _; omega) (Nat.le_refl _) (Nat.le_refl _) (pRt_mono ?_)
  refine k12_wearsOf (d + 0) hW hZ_b0 hr5 ?_
  intro _
  show Ok g _ Qx 124 [(0, .ref b0), (1, .int y1), (2, .int y2), (3, .int y3), (4, .int y4)] [.int r4.1, .int r2, .int (((10 : Int32) + ((16 : Int32) * y1)) + y4), .ref (rO O b0 0)] (Z, r4.2.1, r4.2.2, O)
  refine ok_iadd dX12_playNow_124 ?_
  refine ok_i2l dX12_playNow_125 ?_
  refine ok_iconst (v := 0) dX12_playNow_126 (by decide) ?_
  refine ok_bipush (v := 9) dX12_playNow_127 (by decide) ?_
  obtain ⟨r6, hr7, h⟩ := bd h
  refine ok_callS (d := ((d + 6) + 2)) (mt := m12_cut) (mc := 0) (ms := 0) (As := [.long (r2 + r4.1).toInt64, .int 0, .int 9]) (r := [.int (((10 : Int32) + ((16 : Int32) * y1)) + y4), .ref (rO O b0 0)]) dX12_playNow_129 mo12_cut mv12_cut lkRX12_302 rfl rfl (Nat.le_of_ble_eq_true rfl) (by show _ + 1 ≤ d + _; omega) (Nat.le_refl _) (Nat.le_refl _) (pRt_mono ?_)
  refine k12_cut (d + 6) hW  hr7 ?_
  intro _
  show Ok g _ Qx 132 [(0, .ref b0), (1, .int y1), (2, .int y2), (3, .int y3), (4, .int y4)] [.int r6, .int (((10 : Int32) + ((16 : Int32) * y1)) + y4), .ref (rO O b0 0)] (Z, r4.2.1, r4.2.2, O)
  obtain ⟨hg8, h⟩ := gd h
  obtain ⟨I9, eI9, h⟩ := blE h
  refine ok_iast3 dX12_playNow_132 hT1 hg8 rfl eI9 ?_
  refine ok_iinc (u := (y4 + 1)) (l' := [(4, .int (y4 + 1)), (0, .ref b0), (1, .int y1), (2, .int y2), (3, .int y3)]) dX12_playNow_133 4 rfl rfl (Nat.le_of_ble_eq_true rfl) rfl ?_
  refine ok_goto (t := 5) dX12_playNow_136 (by decide) ?_
  refine ok_sub [1, 2, 3, 4, 0] rfl ?_
  exact hk5 I9 r4.2.2 b0 y1 y2 y3 (y4 + 1) hZ_b0 h
def f12_playNow_c5 (n : Nat) (O : (Nat → Nat → Option Nat)) : Nat → (Nat → Nat → Int32) → (Nat → Nat → Int64) → Nat → Int32 → Int32 → Int32 → Int32 → Option ((Nat → Nat → Int32) × (Nat → Nat → Int64))
  | 0, _, _, _, _, _, _, _ => none
  | m + 1, I, L, b0, y1, y2, y3, y4 => (if ((114 : Int32) + y1) < 0 ∨ 4371 ≤ ((114 : Int32) + y1).toNatClampNeg then none else (if (I (rO O b0 0) ((114 : Int32) + y1).toNatClampNeg) ≤ y4 then bl (sI I b0 24 ((I b0 24) + y3)) fun I4 => (f12_write n I4 O b0 y1 y2 y3).bind fun r5 => some (r5, L) else (f12_isHole I O b0 y1 y4).bind fun r7 => (if r7 = 0 then f12_playNow_c5 n O m I L b0 y1 y2 y3 (y4 + 1) else (f12_blursOf n I L O b0 y1 y4 y2).bind fun r10 => (f12_keyOf r10.2.1 O b0 y1 y4).bind fun r12 => bl ((((90 : Int32) + ((6 : Int32) * y2)) + r12) : Int32) fun z14 => (f12_drawnBy r10.2.1 O b0 (10 : Int32)).bind fun r15 => (if r15.1 < r10.1 then f12_playNow_c96 n O (f12_playNow_c5 n O m) r15.2 r10.2.2 b0 y1 y2 y3 y4 else (if z14 < 0 ∨ 4371 ≤ z14.toNatClampNeg then none else (f12_cut ((r15.2 (rO O b0 0) z14.toNatClampNeg) + 1).toInt64 (0 : Int32) (99 : Int32)).bind fun r19 => (if z14 < 0 ∨ 4371 ≤ z14.toNatClampNeg then none else bl (sI r15.2 (rO O b0 0) z14.toNatClampNeg r19) fun I22 => f12_playNow_c96 n O (f12_playNow_c5 n O m) I22 r10.2.2 b0 y1 y2 (y3 + 1) y4))))))
set_option maxHeartbeats 4000000 in
set_option maxRecDepth 20000 in
theorem o12_playNow_c5 {g : pG} {Qx : Option Value → pW → Prop} {Z : pZ} {O : (Nat → Nat → Option Nat)} {n : Nat} {res : (Nat → Nat → Int32) × (Nat → Nat → Int64)} (d : Nat) (hW : WT Z O) (hQ : Qx none (Z, res.1, res.2, O)) : ∀ (m : Nat) (I : (Nat → Nat → Int32)) (L : (Nat → Nat → Int64)) (b0 : Nat) (y1 : Int32) (y2 : Int32) (y3 : Int32) (y4 : Int32), (Z[b0]? = some (12, 34)) → f12_playNow_c5 n O m I L b0 y1 y2 y3 y4 = some res → Ok g (d + 9, RX12, cX12_playNow, 7, false, 0, 0, Z.length, pSl Z) Qx 5 [(0, .ref b0), (1, .int y1), (2, .int y2), (3, .int y3), (4, .int y4)] [] (Z, I, L, O) := by
  intro m
  induction m with
  | zero => intro I L b0 y1 y2 y3 y4 hZ_b0 h; rw [f12_playNow_c5] at h; cases h
  | succ m ih =>
    intro I L b0 y1 y2 y3 y4 hZ_b0 h
    rw [f12_playNow_c5] at h
    refine ok_iload dX12_playNow_5 4 rfl ?_
    refine ok_aload_n dX12_playNow_7 0 rfl ?_
    have hT1 : Z[(rO O b0 0)]? = some (13, 4371) := (wt_f (ci := 12) (k := 0) hW hZ_b0 rfl).2
    refine ok_getR (ci := 12) (k := 0) dX12_playNow_8 flRX12_7 rfl hW hZ_b0 (by decide) ?_
    refine ok_bipush (v := 114) dX12_playNow_11 (by decide) ?_
    refine ok_iload_n dX12_playNow_13 1 rfl ?_
    refine ok_iadd dX12_playNow_14 ?_
    obtain ⟨hg2, h⟩ := gd h
    refine ok_iald2 (N := ((114 : Int32) + y1).toNatClampNeg) dX12_playNow_15 hT1 hg2 rfl ?_
    refine ok_icmp_ge (t := 139) dX12_playNow_16 (by decide) (fun hc3 => ?_) (fun hc3 => ?_)
    · have h := (if_pos hc3).symm.trans h
      refine ok_aload_n dX12_playNow_139 0 rfl ?_
      refine ok_dup dX12_playNow_140 rfl ?_
      refine ok_getI (ci := 12) (k := 24) dX12_playNow_141 flRX12_343 rfl hZ_b0 (by decide) ?_
      refine ok_iload_n dX12_playNow_144 3 rfl ?_
      refine ok_iadd dX12_playNow_145 ?_
      obtain ⟨I4, eI4, h⟩ := blE h
      refine ok_putI2 (ci := 12) (k := 24) dX12_playNow_146 flRX12_343 rfl (Or.inl rfl) hZ_b0 (by decide) eI4 ?_
      refine ok_aload_n dX12_playNow_149 0 rfl ?_
      refine ok_iload_n dX12_playNow_150 1 rfl ?_
      refine ok_iload_n dX12_playNow_151 2 rfl ?_
      refine ok_iload_n dX12_playNow_152 3 rfl ?_
      obtain ⟨r5, hr6, h⟩ := bd h
      refine ok_callV (d := ((d + 6) + 2)) (mt := m12_write) (mc := 0) (ms := 0) (As := [.int y1, .int y2, .int y3]) (r := []) dX12_playNow_153 mo12_write mv12_write lkRX12_346 rfl hZ_b0 (q := (RX12, TX12, 34)) rfl rfl rfl (Nat.le_of_ble_eq_true rfl) (by show _ + 1 ≤ d + _; omega) (Nat.le_refl _) (Nat.le_refl _) (pRt_mono ?_)
      refine k12_write (d + 6) hW hZ_b0 hr6 ?_
      intro _
      show Ok g _ Qx 156 [(0, .ref b0), (1, .int y1), (2, .int y2), (3, .int y3), (4, .int y4)] [] (Z, r5, L, O)
      cases h
      exact ok_vret dX12_playNow_156 hQ
    · have h := (if_neg hc3).symm.trans h
      refine ok_aload_n dX12_playNow_19 0 rfl ?_
      refine ok_iload_n dX12_playNow_20 1 rfl ?_
      refine ok_iload dX12_playNow_21 4 rfl ?_
      obtain ⟨r7, hr8, h⟩ := bd h
      refine ok_callV (d := ((d + 4) + 4)) (mt := m12_isHole) (mc := 0) (ms := 0) (As := [.int y1, .int y4]) (r := []) dX12_playNow_23 mo12_isHole mv12_isHole lkRX12_331 rfl hZ_b0 (q := (RX12, TX12, 34)) rfl rfl rfl (Nat.le_of_ble_eq_true rfl) (by show _ + 1 ≤ d + _; omega) (Nat.le_refl _) (Nat.le_refl _) (pRt_mono ?_)
      refine k12_isHole (d + 4) hW hZ_b0 hr8 ?_
      intro hbr7
      show Ok g _ Qx 26 [(0, .ref b0), (1, .int y1), (2, .int y2), (3, .int y3), (4, .int y4)] [.int r7] (Z, I, L, O)
      refine ok_if_ne (t := 32) dX12_playNow_26 (by decide) (fun hc9 => ?_) (fun hc9 => ?_)
      · have h := (if_neg hc9).symm.trans h
        refine ok_aload_n dX12_playNow_32 0 rfl ?_
        refine ok_iload_n dX12_playNow_33 1 rfl ?_
        refine ok_iload dX12_playNow_34 4 rfl ?_
        refine ok_iload_n dX12_playNow_36 2 rfl ?_
        obtain ⟨r10, hr11, h⟩ := bd h
        refine ok_callV (d := ((d + 0) + 8)) (mt := m12_blursOf) (mc := 0) (ms := 0) (As := [.int y1, .int y4, .int y2]) (r := []) dX12_playNow_37 mo12_blursOf mv12_blursOf lkRX12_334 rfl hZ_b0 (q := (RX12, TX12, 34)) rfl rfl rfl (Nat.le_of_ble_eq_true rfl) (by show _ + 1 ≤ d + _; omega) (Nat.le_refl _) (Nat.le_refl _) (pRt_mono ?_)
        refine k12_blursOf (d + 0) hW hZ_b0 hr11 ?_
        intro _
        show Ok g _ Qx 40 [(0, .ref b0), (1, .int y1), (2, .int y2), (3, .int y3), (4, .int y4)] [.int r10.1] (Z, r10.2.1, r10.2.2, O)
        refine ok_istore (l' := [(5, .int r10.1), (0, .ref b0), (1, .int y1), (2, .int y2), (3, .int y3), (4, .int y4)]) dX12_playNow_40 (Nat.le_of_ble_eq_true rfl) rfl ?_
        refine ok_bipush (v := 90) dX12_playNow_42 (by decide) ?_
        refine ok_bipush (v := 6) dX12_playNow_44 (by decide) ?_
        refine ok_iload_n dX12_playNow_46 3 rfl ?_
        refine ok_imul dX12_playNow_47 ?_
        refine ok_iadd dX12_playNow_48 ?_
        refine ok_aload_n dX12_playNow_49 1 rfl ?_
        refine ok_iload_n dX12_playNow_50 2 rfl ?_
        refine ok_iload dX12_playNow_51 5 rfl ?_
        obtain ⟨r12, hr13, h⟩ := bd h
        refine ok_callV (d := ((d + 6) + 2)) (mt := m12_keyOf) (mc := 0) (ms := 0) (As := [.int y1, .int y4]) (r := [.int ((90 : Int32) + ((6 : Int32) * y2))]) dX12_playNow_53 mo12_keyOf mv12_keyOf lkRX12_87 rfl hZ_b0 (q := (RX12, TX12, 34)) rfl rfl rfl (Nat.le_of_ble_eq_true rfl) (by show _ + 1 ≤ d + _; omega) (Nat.le_refl _) (Nat.le_refl _) (pRt_mono ?_)
        refine k12_keyOf (d + 6) hW hZ_b0 hr13 ?_
        intro _
        show Ok g _ Qx 56 [(5, .int r10.1), (0, .ref b0), (1, .int y1), (2, .int y2), (3, .int y3), (4, .int y4)] [.int r12, .int ((90 : Int32) + ((6 : Int32) * y2))] (Z, r10.2.1, r10.2.2, O)
        refine ok_iadd dX12_playNow_56 ?_
        obtain ⟨z14, ez14, h⟩ := blE h
        refine ok_nm ez14 ?_
        refine ok_istore (l' := [(6, .int z14), (5, .int r10.1), (0, .ref b0), (1, .int y1), (2, .int y2), (3, .int y3), (4, .int y4)]) dX12_playNow_57 (Nat.le_of_ble_eq_true rfl) rfl ?_
        refine ok_aload_n dX12_playNow_59 2 rfl ?_
        refine ok_bipush (v := 10) dX12_playNow_60 (by decide) ?_
        obtain ⟨r15, hr16, h⟩ := bd h
        refine ok_callV (d := ((d + 5) + 3)) (mt := m12_drawnBy) (mc := 0) (ms := 0) (As := [.int 10]) (r := []) dX12_playNow_62 mo12_drawnBy mv12_drawnBy lkRX12_337 rfl hZ_b0 (q := (RX12, TX12, 34)) rfl rfl rfl (Nat.le_of_ble_eq_true rfl) (by show _ + 1 ≤ d + _; omega) (Nat.le_refl _) (Nat.le_refl _) (pRt_mono ?_)
        refine k12_drawnBy (d + 5) hW hZ_b0 hr16 ?_
        intro _
        show Ok g _ Qx 65 [(6, .int z14), (5, .int r10.1), (0, .ref b0), (1, .int y1), (2, .int y2), (3, .int y3), (4, .int y4)] [.int r15.1] (Z, r15.2, r10.2.2, O)
        refine ok_iload dX12_playNow_65 1 rfl ?_
        refine ok_icmp_lt (t := 96) dX12_playNow_67 (by decide) (fun hc17 => ?_) (fun hc17 => ?_)
        · have h := (if_pos hc17).symm.trans h
          refine ok_sub [2, 3, 4, 5, 6] rfl ?_
          exact o12_playNow_c96 d hW hQ ih r15.2 r10.2.2 b0 y1 y2 y3 y4 hZ_b0 h
        · have h := (if_neg hc17).symm.trans h
          refine ok_iinc (u := (y3 + 1)) (l' := [(3, .int (y3 + 1)), (6, .int z14), (5, .int r10.1), (0, .ref b0), (1, .int y1), (2, .int y2), (4, .int y4)]) dX12_playNow_70 5 rfl rfl (Nat.le_of_ble_eq_true rfl) rfl ?_
          refine ok_aload_n dX12_playNow_73 3 rfl ?_
          refine ok_getR (ci := 12) (k := 0) dX12_playNow_74 flRX12_7 rfl hW hZ_b0 (by decide) ?_
          refine ok_iload dX12_playNow_77 1 rfl ?_
          refine ok_aload_n dX12_playNow_79 3 rfl ?_
          refine ok_getR (ci := 12) (k := 0) dX12_playNow_80 flRX12_7 rfl hW hZ_b0 (by decide) ?_
          refine ok_iload dX12_playNow_83 1 rfl ?_
          obtain ⟨hg18, h⟩ := gd h
          refine ok_iald2 (N := z14.toNatClampNeg) dX12_playNow_85 hT1 hg18 rfl ?_
          refine ok_iconst (v := 1) dX12_playNow_86 (by decide) ?_
          refine ok_iadd dX12_playNow_87 ?_
          refine ok_i2l dX12_playNow_88 ?_
          refine ok_iconst (v := 0) dX12_playNow_89 (by decide) ?_
          refine ok_bipush (v := 99) dX12_playNow_90 (by decide) ?_
          obtain ⟨r19, hr20, h⟩ := bd h
          refine ok_callS (d := ((d + 6) + 2)) (mt := m12_cut) (mc := 0) (ms := 0) (As := [.long ((r15.2 (rO O b0 0) z14.toNatClampNeg) + 1).toInt64, .int 0, .int 99]) (r := [.int z14, .ref (rO O b0 0)]) dX12_playNow_92 mo12_cut mv12_cut lkRX12_302 rfl rfl (Nat.le_of_ble_eq_true rfl) (by show _ + 1 ≤ d + _; omega) (Nat.le_refl _) (Nat.le_refl _) (pRt_mono ?_)
          refine k12_cut (d + 6) hW  hr20 ?_
          intro _
          show Ok g _ Qx 95 [(3, .int (y3 + 1)), (6, .int z14), (5, .int r10.1), (0, .ref b0), (1, .int y1), (2, .int y2), (4, .int y4)] [.int r19, .int z14, .ref (rO O b0 0)] (Z, r15.2, r10.2.2, O)
          obtain ⟨hg21, h⟩ := gd h
          obtain ⟨I22, eI22, h⟩ := blE h
          refine ok_iast3 dX12_playNow_95 hT1 hg21 rfl eI22 ?_
          refine ok_sub [3, 4, 5, 0, 6] rfl ?_
          exact o12_playNow_c96 d hW hQ ih I22 r10.2.2 b0 y1 y2 (y3 + 1) y4 hZ_b0 h
      · have h := (if_pos hc9).symm.trans h
        refine ok_goto (t := 133) dX12_playNow_29 (by decide) ?_
        refine ok_iinc (u := (y4 + 1)) (l' := [(4, .int (y4 + 1)), (0, .ref b0), (1, .int y1), (2, .int y2), (3, .int y3)]) dX12_playNow_133 4 rfl rfl (Nat.le_of_ble_eq_true rfl) rfl ?_
        refine ok_goto (t := 5) dX12_playNow_136 (by decide) ?_
        refine ok_sub [1, 2, 3, 4, 0] rfl ?_
        exact ih I L b0 y1 y2 y3 (y4 + 1) hZ_b0 h
def f12_playNow (n : Nat) (I : (Nat → Nat → Int32)) (L : (Nat → Nat → Int64)) (O : (Nat → Nat → Option Nat)) (a0 : Nat) (x1 : Int32) (x2 : Int32) : Option ((Nat → Nat → Int32) × (Nat → Nat → Int64)) := f12_playNow_c5 n O n I L a0 x1 x2 (0 : Int32) (0 : Int32)
set_option maxHeartbeats 4000000 in
set_option maxRecDepth 20000 in
theorem o12_playNow {g : pG} {Qx : Option Value → pW → Prop} {Z : pZ} {I : (Nat → Nat → Int32)} {L : (Nat → Nat → Int64)} {O : (Nat → Nat → Option Nat)} {n : Nat} {a0 : Nat} {x1 : Int32} {x2 : Int32} {res : (Nat → Nat → Int32) × (Nat → Nat → Int64)} (d : Nat) (hW : WT Z O) (hZ0 : Z[a0]? = some (12, 34)) (h : f12_playNow n I L O a0 x1 x2 = some res) (hQ : Qx none (Z, res.1, res.2, O)) : Ok g (d + 9, RX12, cX12_playNow, 7, false, 0, 0, Z.length, pSl Z) Qx 0 [(0, .ref a0), (1, .int x1), (2, .int x2)] [] (Z, I, L, O) := by
  unfold f12_playNow at h
  refine ok_iconst (v := 0) dX12_playNow_0 (by decide) ?_
  refine ok_istore_n (l' := [(3, .int 0), (0, .ref a0), (1, .int x1), (2, .int x2)]) dX12_playNow_1 rfl (Nat.le_of_ble_eq_true rfl) rfl ?_
  refine ok_iconst (v := 0) dX12_playNow_2 (by decide) ?_
  refine ok_istore (l' := [(4, .int 0), (3, .int 0), (0, .ref a0), (1, .int x1), (2, .int x2)]) dX12_playNow_3 (Nat.le_of_ble_eq_true rfl) rfl ?_
  refine ok_sub [2, 3, 4, 1, 0] rfl ?_
  exact o12_playNow_c5 d hW hQ  n I L a0 x1 x2 (0 : Int32) (0 : Int32) hZ0 h
theorem k12_playNow {g : pG} {Q : Option Value → pW → Prop} {Z : pZ} {I : (Nat → Nat → Int32)} {L : (Nat → Nat → Int64)} {O : (Nat → Nat → Option Nat)} {n : Nat} {a0 : Nat} {x1 : Int32} {x2 : Int32} {res : (Nat → Nat → Int32) × (Nat → Nat → Int64)} (d : Nat) (hW : WT Z O) (hZ0 : Z[a0]? = some (12, 34)) (h : f12_playNow n I L O a0 x1 x2 = some res) (hQ : Q none (Z, res.1, res.2, O)) : CT g (d + 9) m12_playNow 0 0 [.ref a0, .int x1, .int x2] (Z, I, L, O) Q :=
  ct_of_ok (mt := m12_playNow) (ini := false) mo12_playNow.2.2.2.2 (fun h => by cases h) (Nat.le_of_ble_eq_true rfl) (o12_playNow d hW hZ0 h ⟨trivial, hQ, rfl, rfl⟩)
