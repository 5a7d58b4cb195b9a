theorem flRX7_9 : FL RX7 9 7 0 := ⟨(RX7, TX7, 7), rfl, by decide, tb_i 296 (by decide +kernel)⟩
theorem flRX7_15 : FL RX7 15 7 1 := ⟨(RX7, TX7, 7), rfl, by decide, tb_i 297 (by decide +kernel)⟩
theorem flRX7_18 : FL RX7 18 7 2 := ⟨(RX7, TX7, 7), rfl, by decide, tb_i 298 (by decide +kernel)⟩
theorem flRX7_21 : FL RX7 21 7 3 := ⟨(RX7, TX7, 7), rfl, by decide, tb_i 299 (by decide +kernel)⟩
theorem flRX7_24 : FL RX7 24 7 4 := ⟨(RX7, TX7, 7), rfl, by decide, tb_i 300 (by decide +kernel)⟩
theorem flRX7_27 : FL RX7 27 7 5 := ⟨(RX7, TX7, 7), rfl, by decide, tb_i 301 (by decide +kernel)⟩
theorem flRX7_31 : FL RX7 31 7 6 := ⟨(RX7, TX7, 7), rfl, by decide, tb_i 303 (by decide +kernel)⟩
theorem lkRX7_34 : Cond.methodLink RX7 34 yJ7_fill_53178 ∈ lw_tbl := tb_i 538 (by decide +kernel)
theorem lkRX7_40 : Cond.methodLink RX7 40 yX7_lawAt ∈ lw_tbl := tb_i 561 (by decide +kernel)
theorem dX7_clear_0 : decode cX7_clear 0 = .ok (.aload_n 0, 1) := by decide +kernel
theorem dX7_clear_1 : decode cX7_clear 1 = .ok (.iconst 0, 1) := by decide +kernel
theorem dX7_clear_2 : decode cX7_clear 2 = .ok (.putfield 27, 3) := by decide +kernel
theorem dX7_clear_5 : decode cX7_clear 5 = .ok (.aload_n 0, 1) := by decide +kernel
theorem dX7_clear_6 : decode cX7_clear 6 = .ok (.iconst 0, 1) := by decide +kernel
theorem dX7_clear_7 : decode cX7_clear 7 = .ok (.putfield 31, 3) := by decide +kernel
theorem dX7_clear_10 : decode cX7_clear 10 = .ok (.aload_n 0, 1) := by decide +kernel
theorem dX7_clear_11 : decode cX7_clear 11 = .ok (.getfield 24, 3) := by decide +kernel
theorem dX7_clear_14 : decode cX7_clear 14 = .ok (.iconst (-1), 1) := by decide +kernel
theorem dX7_clear_15 : decode cX7_clear 15 = .ok (.invokestatic 34, 3) := by decide +kernel
theorem dX7_clear_18 : decode cX7_clear 18 = .ok (.return_, 1) := by decide +kernel
theorem wi_RX7 : Cond.initialized RX7 ∈ lw_tbl := tb_i 11 (by decide +kernel)
theorem wn_RX7 : RX7 ≠ "java/lang/invoke/MethodHandle" ∧ RX7 ≠ "java/lang/invoke/VarHandle" := ⟨by decide +kernel, by decide +kernel⟩
theorem wp_RX7 : plainName RX7 = true := by decide +kernel
def m7_clear : pMT := (yX7_clear, cX7_clear, 1, none)
theorem mo7_clear : mOK m7_clear 0 := ⟨tb_i 537 (by decide +kernel), wi_RX7, ⟨wn_RX7.1, wn_RX7.2, by decide +kernel⟩, by decide, plainFor_of_name wp_RX7⟩
theorem mv7_clear : mV m7_clear := ⟨tb_i 535 (by decide +kernel), tb_i 536 (by decide +kernel)⟩
def f7_clear (I : (Nat → Nat → Int32)) (O : (Nat → Nat → Option Nat)) (a0 : Nat) : Option ((Nat → Nat → Int32)) := bl (sI I a0 5 (0 : Int32)) fun I1 => bl (sI I1 a0 6 (0 : Int32)) fun I2 => bl (flI I2 (rO O a0 4) 3 (-1 : Int32)) fun I4 => some (I4)
set_option maxHeartbeats 4000000 in
set_option maxRecDepth 20000 in
theorem o7_clear {g : pG} {Qx : Option Value → pW → Prop} {Z : pZ} {I : (Nat → Nat → Int32)} {L : (Nat → Nat → Int64)} {O : (Nat → Nat → Option Nat)} {a0 : Nat} {res : (Nat → Nat → Int32)} (d : Nat) (hW : WT Z O) (hZ0 : Z[a0]? = some (7, 7)) (h : f7_clear I O a0 = some res) (hQ : Qx none (Z, res, L, O)) : Ok g (d + 5, RX7, cX7_clear, 1, false, 0, 0, Z.length, pSl Z) Qx 0 [(0, .ref a0)] [] (Z, I, L, O) := by
  unfold f7_clear at h
  refine ok_aload_n dX7_clear_0 0 rfl ?_
  refine ok_iconst (v := 0) dX7_clear_1 (by decide) ?_
  obtain ⟨I1, eI1, h⟩ := blE h
  refine ok_putI2 (ci := 7) (k := 5) dX7_clear_2 flRX7_27 rfl (Or.inl rfl) hZ0 (by decide) eI1 ?_
  refine ok_aload_n dX7_clear_5 0 rfl ?_
  refine ok_iconst (v := 0) dX7_clear_6 (by decide) ?_
  obtain ⟨I2, eI2, h⟩ := blE h
  refine ok_putI2 (ci := 7) (k := 6) dX7_clear_7 flRX7_31 rfl (Or.inl rfl) hZ0 (by decide) eI2 ?_
  refine ok_aload_n dX7_clear_10 0 rfl ?_
  have hT3 : Z[(rO O a0 4)]? = some (13, 3) := (wt_f (ci := 7) (k := 4) hW hZ0 rfl).2
  refine ok_getR (ci := 7) (k := 4) dX7_clear_11 flRX7_24 rfl hW hZ0 (by decide) ?_
  refine ok_iconst (v := (-1)) dX7_clear_14 (by decide) ?_
  obtain ⟨I4, eI4, h⟩ := blE h
  refine ok_callS (d := ((d + 0) + 4)) (mt := mJ7_fill_53178) (mc := 0) (ms := 0) (As := [.ref (rO O a0 4), .int (-1)]) (r := []) dX7_clear_15 moJ7_fill_53178 mvJ7_fill_53178 lkRX7_34 rfl rfl (Nat.le_of_ble_eq_true rfl) (by show _ + 1 ≤ d + _; omega) (Nat.le_refl _) (Nat.le_refl _) (pRt_mono ?_)
  refine kJ7_fillI hT3 (by decide) eI4 ?_
  intro _
  show Ok g _ Qx 18 [(0, .ref a0)] [] (Z, I4, L, O)
  cases h
  exact ok_vret dX7_clear_18 hQ
theorem k7_clear {g : pG} {Q : Option Value → pW → Prop} {Z : pZ} {I : (Nat → Nat → Int32)} {L : (Nat → Nat → Int64)} {O : (Nat → Nat → Option Nat)} {a0 : Nat} {res : (Nat → Nat → Int32)} (d : Nat) (hW : WT Z O) (hZ0 : Z[a0]? = some (7, 7)) (h : f7_clear I O a0 = some res) (hQ : Q none (Z, res, L, O)) : CT g (d + 5) m7_clear 0 0 [.ref a0] (Z, I, L, O) Q :=
  ct_of_ok (mt := m7_clear) (ini := false) mo7_clear.2.2.2.2 (fun h => by cases h) (Nat.le_of_ble_eq_true rfl) (o7_clear d hW hZ0 h ⟨trivial, hQ, rfl, rfl⟩)
theorem dX7_add_0 : decode cX7_add 0 = .ok (.aload_n 0, 1) := by decide +kernel
theorem dX7_add_1 : decode cX7_add 1 = .ok (.getfield 27, 3) := by decide +kernel
theorem dX7_add_4 : decode cX7_add 4 = .ok (.ifCond .lt 13, 3) := by decide +kernel
theorem dX7_add_7 : decode cX7_add 7 = .ok (.aload_n 0, 1) := by decide +kernel
theorem dX7_add_8 : decode cX7_add 8 = .ok (.getfield 27, 3) := by decide +kernel
theorem dX7_add_11 : decode cX7_add 11 = .ok (.sipush 300, 3) := by decide +kernel
theorem dX7_add_14 : decode cX7_add 14 = .ok (.if_icmp .lt 5, 3) := by decide +kernel
theorem dX7_add_17 : decode cX7_add 17 = .ok (.iconst (-1), 1) := by decide +kernel
theorem dX7_add_18 : decode cX7_add 18 = .ok (.ireturn, 1) := by decide +kernel
theorem dX7_add_19 : decode cX7_add 19 = .ok (.aload_n 0, 1) := by decide +kernel
theorem dX7_add_20 : decode cX7_add 20 = .ok (.getfield 9, 3) := by decide +kernel
theorem dX7_add_23 : decode cX7_add 23 = .ok (.aload_n 0, 1) := by decide +kernel
theorem dX7_add_24 : decode cX7_add 24 = .ok (.getfield 27, 3) := by decide +kernel
theorem dX7_add_27 : decode cX7_add 27 = .ok (.iload_n 1, 1) := by decide +kernel
theorem dX7_add_28 : decode cX7_add 28 = .ok (.iastore, 1) := by decide +kernel
theorem dX7_add_29 : decode cX7_add 29 = .ok (.aload_n 0, 1) := by decide +kernel
theorem dX7_add_30 : decode cX7_add 30 = .ok (.dup, 1) := by decide +kernel
theorem dX7_add_31 : decode cX7_add 31 = .ok (.getfield 27, 3) := by decide +kernel
theorem dX7_add_34 : decode cX7_add 34 = .ok (.iconst 1, 1) := by decide +kernel
theorem dX7_add_35 : decode cX7_add 35 = .ok (.iadd, 1) := by decide +kernel
theorem dX7_add_36 : decode cX7_add 36 = .ok (.putfield 27, 3) := by decide +kernel
theorem dX7_add_39 : decode cX7_add 39 = .ok (.aload_n 0, 1) := by decide +kernel
theorem dX7_add_40 : decode cX7_add 40 = .ok (.getfield 27, 3) := by decide +kernel
theorem dX7_add_43 : decode cX7_add 43 = .ok (.iconst 1, 1) := by decide +kernel
theorem dX7_add_44 : decode cX7_add 44 = .ok (.isub, 1) := by decide +kernel
theorem dX7_add_45 : decode cX7_add 45 = .ok (.ireturn, 1) := by decide +kernel
def m7_add : pMT := (yX7_add, cX7_add, 2, some .int)
theorem mo7_add : mOK m7_add 1 := ⟨tb_i 580 (by decide +kernel), wi_RX7, ⟨wn_RX7.1, wn_RX7.2, by decide +kernel⟩, by decide, plainFor_of_name wp_RX7⟩
theorem mv7_add : mV m7_add := ⟨tb_i 578 (by decide +kernel), tb_i 579 (by decide +kernel)⟩
def f7_add (I : (Nat → Nat → Int32)) (O : (Nat → Nat → Option Nat)) (a0 : Nat) (x1 : Int32) : Option (Int32 × (Nat → Nat → Int32)) := (if (I a0 5) < 0 then some (((-1) : Int32), I) else (if (I a0 5) < (300 : Int32) then (if (I a0 5) < 0 ∨ 300 ≤ (I a0 5).toNatClampNeg then none else bl (sI I (rO O a0 0) (I a0 5).toNatClampNeg x1) fun I5 => bl (sI I5 a0 5 ((I5 a0 5) + 1)) fun I6 => some (((I6 a0 5) - 1), I6)) else some (((-1) : Int32), I)))
set_option maxHeartbeats 4000000 in
set_option maxRecDepth 20000 in
theorem o7_add {g : pG} {Qx : Option Value → pW → Prop} {Z : pZ} {I : (Nat → Nat → Int32)} {L : (Nat → Nat → Int64)} {O : (Nat → Nat → Option Nat)} {a0 : Nat} {x1 : Int32} {res : Int32 × (Nat → Nat → Int32)} (d : Nat) (hW : WT Z O) (hZ0 : Z[a0]? = some (7, 7)) (h : f7_add I O a0 x1 = some res) (hQ : Qx (some (.int res.1)) (Z, res.2, L, O)) : Ok g (d + 2, RX7, cX7_add, 2, false, 0, 0, Z.length, pSl Z) Qx 0 [(0, .ref a0), (1, .int x1)] [] (Z, I, L, O) := by
  unfold f7_add at h
  refine ok_aload_n dX7_add_0 0 rfl ?_
  refine ok_getI (ci := 7) (k := 5) dX7_add_1 flRX7_27 rfl hZ0 (by decide) ?_
  refine ok_if_lt (t := 17) dX7_add_4 (by decide) (fun hc1 => ?_) (fun hc1 => ?_)
  · have h := (if_pos hc1).symm.trans h
    refine ok_iconst (v := (-1)) dX7_add_17 (by decide) ?_
    cases h
    exact ok_iret dX7_add_18 hQ
  · have h := (if_neg hc1).symm.trans h
    refine ok_aload_n dX7_add_7 0 rfl ?_
    refine ok_getI (ci := 7) (k := 5) dX7_add_8 flRX7_27 rfl hZ0 (by decide) ?_
    refine ok_sipush (v := 300) dX7_add_11 (by decide) ?_
    refine ok_icmp_lt (t := 19) dX7_add_14 (by decide) (fun hc2 => ?_) (fun hc2 => ?_)
    · have h := (if_pos hc2).symm.trans h
      refine ok_aload_n dX7_add_19 0 rfl ?_
      have hT3 : Z[(rO O a0 0)]? = some (13, 300) := (wt_f (ci := 7) (k := 0) hW hZ0 rfl).2
      refine ok_getR (ci := 7) (k := 0) dX7_add_20 flRX7_9 rfl hW hZ0 (by decide) ?_
      refine ok_aload_n dX7_add_23 0 rfl ?_
      refine ok_getI (ci := 7) (k := 5) dX7_add_24 flRX7_27 rfl hZ0 (by decide) ?_
      refine ok_iload_n dX7_add_27 1 rfl ?_
      obtain ⟨hg4, h⟩ := gd h
      obtain ⟨I5, eI5, h⟩ := blE h
      refine ok_iast3 dX7_add_28 hT3 hg4 rfl eI5 ?_
      refine ok_aload_n dX7_add_29 0 rfl ?_
      refine ok_dup dX7_add_30 rfl ?_
      refine ok_getI (ci := 7) (k := 5) dX7_add_31 flRX7_27 rfl hZ0 (by decide) ?_
      refine ok_iconst (v := 1) dX7_add_34 (by decide) ?_
      refine ok_iadd dX7_add_35 ?_
      obtain ⟨I6, eI6, h⟩ := blE h
      refine ok_putI2 (ci := 7) (k := 5) dX7_add_36 flRX7_27 rfl (Or.inl rfl) hZ0 (by decide) eI6 ?_
      refine ok_aload_n dX7_add_39 0 rfl ?_
      refine ok_getI (ci := 7) (k := 5) dX7_add_40 flRX7_27 rfl hZ0 (by decide) ?_
      refine ok_iconst (v := 1) dX7_add_43 (by decide) ?_
      refine ok_isub dX7_add_44 ?_
      cases h
      exact ok_iret dX7_add_45 hQ
    · have h := (if_neg hc2).symm.trans h
      refine ok_iconst (v := (-1)) dX7_add_17 (by decide) ?_
      cases h
      exact ok_iret dX7_add_18 hQ
theorem k7_add {g : pG} {Q : Option Value → pW → Prop} {Z : pZ} {I : (Nat → Nat → Int32)} {L : (Nat → Nat → Int64)} {O : (Nat → Nat → Option Nat)} {a0 : Nat} {x1 : Int32} {res : Int32 × (Nat → Nat → Int32)} (d : Nat) (hW : WT Z O) (hZ0 : Z[a0]? = some (7, 7)) (h : f7_add I O a0 x1 = some res) (hQ : Q (some (.int res.1)) (Z, res.2, L, O)) : CT g (d + 2) m7_add 0 0 [.ref a0, .int x1] (Z, I, L, O) Q :=
  ct_of_ok (mt := m7_add) (ini := false) mo7_add.2.2.2.2 (fun h => by cases h) (Nat.le_of_ble_eq_true rfl) (o7_add d hW hZ0 h ⟨trivial, hQ, rfl, rfl⟩)
theorem dX7_aim_0 : decode cX7_aim 0 = .ok (.iload_n 1, 1) := by decide +kernel
theorem dX7_aim_1 : decode cX7_aim 1 = .ok (.ifCond .lt 43, 3) := by decide +kernel
theorem dX7_aim_4 : decode cX7_aim 4 = .ok (.iload_n 1, 1) := by decide +kernel
theorem dX7_aim_5 : decode cX7_aim 5 = .ok (.aload_n 0, 1) := by decide +kernel
theorem dX7_aim_6 : decode cX7_aim 6 = .ok (.getfield 27, 3) := by decide +kernel
theorem dX7_aim_9 : decode cX7_aim 9 = .ok (.if_icmp .ge 35, 3) := by decide +kernel
theorem dX7_aim_12 : decode cX7_aim 12 = .ok (.iload_n 1, 1) := by decide +kernel
theorem dX7_aim_13 : decode cX7_aim 13 = .ok (.sipush 300, 3) := by decide +kernel
theorem dX7_aim_16 : decode cX7_aim 16 = .ok (.if_icmp .ge 28, 3) := by decide +kernel
theorem dX7_aim_19 : decode cX7_aim 19 = .ok (.aload_n 0, 1) := by decide +kernel
theorem dX7_aim_20 : decode cX7_aim 20 = .ok (.getfield 9, 3) := by decide +kernel
theorem dX7_aim_23 : decode cX7_aim 23 = .ok (.iload_n 1, 1) := by decide +kernel
theorem dX7_aim_24 : decode cX7_aim 24 = .ok (.aload_n 0, 1) := by decide +kernel
theorem dX7_aim_25 : decode cX7_aim 25 = .ok (.getfield 9, 3) := by decide +kernel
theorem dX7_aim_28 : decode cX7_aim 28 = .ok (.iload_n 1, 1) := by decide +kernel
theorem dX7_aim_29 : decode cX7_aim 29 = .ok (.iaload, 1) := by decide +kernel
theorem dX7_aim_30 : decode cX7_aim 30 = .ok (.sipush 1024, 3) := by decide +kernel
theorem dX7_aim_33 : decode cX7_aim 33 = .ok (.irem, 1) := by decide +kernel
theorem dX7_aim_34 : decode cX7_aim 34 = .ok (.aload_n 0, 1) := by decide +kernel
theorem dX7_aim_35 : decode cX7_aim 35 = .ok (.getfield 27, 3) := by decide +kernel
theorem dX7_aim_38 : decode cX7_aim 38 = .ok (.sipush 1024, 3) := by decide +kernel
theorem dX7_aim_41 : decode cX7_aim 41 = .ok (.imul, 1) := by decide +kernel
theorem dX7_aim_42 : decode cX7_aim 42 = .ok (.iadd, 1) := by decide +kernel
theorem dX7_aim_43 : decode cX7_aim 43 = .ok (.iastore, 1) := by decide +kernel
theorem dX7_aim_44 : decode cX7_aim 44 = .ok (.return_, 1) := by decide +kernel
def m7_aim : pMT := (yX7_aim, cX7_aim, 2, none)
theorem mo7_aim : mOK m7_aim 1 := ⟨tb_i 643 (by decide +kernel), wi_RX7, ⟨wn_RX7.1, wn_RX7.2, by decide +kernel⟩, by decide, plainFor_of_name wp_RX7⟩
theorem mv7_aim : mV m7_aim := ⟨tb_i 641 (by decide +kernel), tb_i 642 (by decide +kernel)⟩
def f7_aim (I : (Nat → Nat → Int32)) (O : (Nat → Nat → Option Nat)) (a0 : Nat) (x1 : Int32) : Option ((Nat → Nat → Int32)) := (if x1 < 0 then some (I) else (if (I a0 5) ≤ x1 then some (I) else (if (300 : Int32) ≤ x1 then some (I) else (if x1 < 0 ∨ 300 ≤ x1.toNatClampNeg then none else (if x1 < 0 ∨ 300 ≤ x1.toNatClampNeg then none else bl (sI I (rO O a0 0) x1.toNatClampNeg (((I (rO O a0 0) x1.toNatClampNeg) - (I (rO O a0 0) x1.toNatClampNeg) / 1024 * 1024) + ((I a0 5) * 1024))) fun I7 => some (I7))))))
set_option maxHeartbeats 4000000 in
set_option maxRecDepth 20000 in
theorem o7_aim {g : pG} {Qx : Option Value → pW → Prop} {Z : pZ} {I : (Nat → Nat → Int32)} {L : (Nat → Nat → Int64)} {O : (Nat → Nat → Option Nat)} {a0 : Nat} {x1 : Int32} {res : (Nat → Nat → Int32)} (d : Nat) (hW : WT Z O) (hZ0 : Z[a0]? = some (7, 7)) (h : f7_aim I O a0 x1 = some res) (hQ : Qx none (Z, res, L, O)) : Ok g (d + 2, RX7, cX7_aim, 2, false, 0, 0, Z.length, pSl Z) Qx 0 [(0, .ref a0), (1, .int x1)] [] (Z, I, L, O) := by
  unfold f7_aim at h
  refine ok_iload_n dX7_aim_0 1 rfl ?_
  refine ok_if_lt (t := 44) dX7_aim_1 (by decide) (fun hc1 => ?_) (fun hc1 => ?_)
  · have h := (if_pos hc1).symm.trans h
    cases h
    exact ok_vret dX7_aim_44 hQ
  · have h := (if_neg hc1).symm.trans h
    refine ok_iload_n dX7_aim_4 1 rfl ?_
    refine ok_aload_n dX7_aim_5 0 rfl ?_
    refine ok_getI (ci := 7) (k := 5) dX7_aim_6 flRX7_27 rfl hZ0 (by decide) ?_
    refine ok_icmp_ge (t := 44) dX7_aim_9 (by decide) (fun hc2 => ?_) (fun hc2 => ?_)
    · have h := (if_pos hc2).symm.trans h
      cases h
      exact ok_vret dX7_aim_44 hQ
    · have h := (if_neg hc2).symm.trans h
      refine ok_iload_n dX7_aim_12 1 rfl ?_
      refine ok_sipush (v := 300) dX7_aim_13 (by decide) ?_
      refine ok_icmp_ge (t := 44) dX7_aim_16 (by decide) (fun hc3 => ?_) (fun hc3 => ?_)
      · have h := (if_pos hc3).symm.trans h
        cases h
        exact ok_vret dX7_aim_44 hQ
      · have h := (if_neg hc3).symm.trans h
        refine ok_aload_n dX7_aim_19 0 rfl ?_
        have hT4 : Z[(rO O a0 0)]? = some (13, 300) := (wt_f (ci := 7) (k := 0) hW hZ0 rfl).2
        refine ok_getR (ci := 7) (k := 0) dX7_aim_20 flRX7_9 rfl hW hZ0 (by decide) ?_
        refine ok_iload_n dX7_aim_23 1 rfl ?_
        refine ok_aload_n dX7_aim_24 0 rfl ?_
        refine ok_getR (ci := 7) (k := 0) dX7_aim_25 flRX7_9 rfl hW hZ0 (by decide) ?_
        refine ok_iload_n dX7_aim_28 1 rfl ?_
        obtain ⟨hg5, h⟩ := gd h
        refine ok_iald2 (N := x1.toNatClampNeg) dX7_aim_29 hT4 hg5 rfl ?_
        refine ok_sipush (v := 1024) dX7_aim_30 (by decide) ?_
        refine ok_irem dX7_aim_33 (by decide) ?_
        refine ok_aload_n dX7_aim_34 0 rfl ?_
        refine ok_getI (ci := 7) (k := 5) dX7_aim_35 flRX7_27 rfl hZ0 (by decide) ?_
        refine ok_sipush (v := 1024) dX7_aim_38 (by decide) ?_
        refine ok_imul dX7_aim_41 ?_
        refine ok_iadd dX7_aim_42 ?_
        obtain ⟨hg6, h⟩ := gd h
        obtain ⟨I7, eI7, h⟩ := blE h
        refine ok_iast3 dX7_aim_43 hT4 hg6 rfl eI7 ?_
        cases h
        exact ok_vret dX7_aim_44 hQ
theorem k7_aim {g : pG} {Q : Option Value → pW → Prop} {Z : pZ} {I : (Nat → Nat → Int32)} {L : (Nat → Nat → Int64)} {O : (Nat → Nat → Option Nat)} {a0 : Nat} {x1 : Int32} {res : (Nat → Nat → Int32)} (d : Nat) (hW : WT Z O) (hZ0 : Z[a0]? = some (7, 7)) (h : f7_aim I O a0 x1 = some res) (hQ : Q none (Z, res, L, O)) : CT g (d + 2) m7_aim 0 0 [.ref a0, .int x1] (Z, I, L, O) Q :=
  ct_of_ok (mt := m7_aim) (ini := false) mo7_aim.2.2.2.2 (fun h => by cases h) (Nat.le_of_ble_eq_true rfl) (o7_aim d hW hZ0 h ⟨trivial, hQ, rfl, rfl⟩)
theorem dX7_addClause_0 : decode cX7_addClause 0 = .ok (.aload_n 0, 1) := by decide +kernel
theorem dX7_addClause_1 : decode cX7_addClause 1 = .ok (.getfield 31, 3) := by decide +kernel
theorem dX7_addClause_4 : decode cX7_addClause 4 = .ok (.ifCond .lt 12, 3) := by decide +kernel
theorem dX7_addClause_7 : decode cX7_addClause 7 = .ok (.aload_n 0, 1) := by decide +kernel
theorem dX7_addClause_8 : decode cX7_addClause 8 = .ok (.getfield 31, 3) := by decide +kernel
theorem dX7_addClause_11 : decode cX7_addClause 11 = .ok (.bipush 24, 2) := by decide +kernel
theorem dX7_addClause_13 : decode cX7_addClause 13 = .ok (.if_icmp .lt 4, 3) := by decide +kernel
theorem dX7_addClause_16 : decode cX7_addClause 16 = .ok (.return_, 1) := by decide +kernel
theorem dX7_addClause_17 : decode cX7_addClause 17 = .ok (.aload_n 0, 1) := by decide +kernel
theorem dX7_addClause_18 : decode cX7_addClause 18 = .ok (.getfield 15, 3) := by decide +kernel
theorem dX7_addClause_21 : decode cX7_addClause 21 = .ok (.aload_n 0, 1) := by decide +kernel
theorem dX7_addClause_22 : decode cX7_addClause 22 = .ok (.getfield 31, 3) := by decide +kernel
theorem dX7_addClause_25 : decode cX7_addClause 25 = .ok (.iload_n 1, 1) := by decide +kernel
theorem dX7_addClause_26 : decode cX7_addClause 26 = .ok (.iastore, 1) := by decide +kernel
theorem dX7_addClause_27 : decode cX7_addClause 27 = .ok (.aload_n 0, 1) := by decide +kernel
theorem dX7_addClause_28 : decode cX7_addClause 28 = .ok (.getfield 18, 3) := by decide +kernel
theorem dX7_addClause_31 : decode cX7_addClause 31 = .ok (.aload_n 0, 1) := by decide +kernel
theorem dX7_addClause_32 : decode cX7_addClause 32 = .ok (.getfield 31, 3) := by decide +kernel
theorem dX7_addClause_35 : decode cX7_addClause 35 = .ok (.iload_n 2, 1) := by decide +kernel
theorem dX7_addClause_36 : decode cX7_addClause 36 = .ok (.iastore, 1) := by decide +kernel
theorem dX7_addClause_37 : decode cX7_addClause 37 = .ok (.aload_n 0, 1) := by decide +kernel
theorem dX7_addClause_38 : decode cX7_addClause 38 = .ok (.getfield 21, 3) := by decide +kernel
theorem dX7_addClause_41 : decode cX7_addClause 41 = .ok (.aload_n 0, 1) := by decide +kernel
theorem dX7_addClause_42 : decode cX7_addClause 42 = .ok (.getfield 31, 3) := by decide +kernel
theorem dX7_addClause_45 : decode cX7_addClause 45 = .ok (.iload_n 3, 1) := by decide +kernel
theorem dX7_addClause_46 : decode cX7_addClause 46 = .ok (.iastore, 1) := by decide +kernel
theorem dX7_addClause_47 : decode cX7_addClause 47 = .ok (.iload_n 1, 1) := by decide +kernel
theorem dX7_addClause_48 : decode cX7_addClause 48 = .ok (.ifCond .lt 18, 3) := by decide +kernel
theorem dX7_addClause_51 : decode cX7_addClause 51 = .ok (.iload_n 1, 1) := by decide +kernel
theorem dX7_addClause_52 : decode cX7_addClause 52 = .ok (.iconst 2, 1) := by decide +kernel
theorem dX7_addClause_53 : decode cX7_addClause 53 = .ok (.if_icmp .gt 13, 3) := by decide +kernel
theorem dX7_addClause_56 : decode cX7_addClause 56 = .ok (.aload_n 0, 1) := by decide +kernel
theorem dX7_addClause_57 : decode cX7_addClause 57 = .ok (.getfield 24, 3) := by decide +kernel
theorem dX7_addClause_60 : decode cX7_addClause 60 = .ok (.iload_n 1, 1) := by decide +kernel
theorem dX7_addClause_61 : decode cX7_addClause 61 = .ok (.aload_n 0, 1) := by decide +kernel
theorem dX7_addClause_62 : decode cX7_addClause 62 = .ok (.getfield 31, 3) := by decide +kernel
theorem dX7_addClause_65 : decode cX7_addClause 65 = .ok (.iastore, 1) := by decide +kernel
theorem dX7_addClause_66 : decode cX7_addClause 66 = .ok (.aload_n 0, 1) := by decide +kernel
theorem dX7_addClause_67 : decode cX7_addClause 67 = .ok (.dup, 1) := by decide +kernel
theorem dX7_addClause_68 : decode cX7_addClause 68 = .ok (.getfield 31, 3) := by decide +kernel
theorem dX7_addClause_71 : decode cX7_addClause 71 = .ok (.iconst 1, 1) := by decide +kernel
theorem dX7_addClause_72 : decode cX7_addClause 72 = .ok (.iadd, 1) := by decide +kernel
theorem dX7_addClause_73 : decode cX7_addClause 73 = .ok (.putfield 31, 3) := by decide +kernel
theorem dX7_addClause_76 : decode cX7_addClause 76 = .ok (.return_, 1) := by decide +kernel
def m7_addClause : pMT := (yX7_addClause, cX7_addClause, 4, none)
theorem mo7_addClause : mOK m7_addClause 3 := ⟨tb_i 568 (by decide +kernel), wi_RX7, ⟨wn_RX7.1, wn_RX7.2, by decide +kernel⟩, by decide, plainFor_of_name wp_RX7⟩
theorem mv7_addClause : mV m7_addClause := ⟨tb_i 566 (by decide +kernel), tb_i 567 (by decide +kernel)⟩
def f7_addClause (I : (Nat → Nat → Int32)) (O : (Nat → Nat → Option Nat)) (a0 : Nat) (x1 : Int32) (x2 : Int32) (x3 : Int32) : Option ((Nat → Nat → Int32)) := (if (I a0 6) < 0 then some (I) else (if (I a0 6) < (24 : Int32) then (if (I a0 6) < 0 ∨ 24 ≤ (I a0 6).toNatClampNeg then none else bl (sI I (rO O a0 1) (I a0 6).toNatClampNeg x1) fun I5 => (if (I5 a0 6) < 0 ∨ 24 ≤ (I5 a0 6).toNatClampNeg then none else bl (sI I5 (rO O a0 2) (I5 a0 6).toNatClampNeg x2) fun I8 => (if (I8 a0 6) < 0 ∨ 24 ≤ (I8 a0 6).toNatClampNeg then none else bl (sI I8 (rO O a0 3) (I8 a0 6).toNatClampNeg x3) fun I11 => (if x1 < 0 then bl (sI I11 a0 6 ((I11 a0 6) + 1)) fun I13 => some (I13) else (if (2 : Int32) < x1 then bl (sI I11 a0 6 ((I11 a0 6) + 1)) fun I15 => some (I15) else (if x1 < 0 ∨ 3 ≤ x1.toNatClampNeg then none else bl (sI I11 (rO O a0 4) x1.toNatClampNeg (I11 a0 6)) fun I18 => bl (sI I18 a0 6 ((I18 a0 6) + 1)) fun I19 => some (I19))))))) else some (I)))
set_option maxHeartbeats 4000000 in
set_option maxRecDepth 20000 in
theorem o7_addClause {g : pG} {Qx : Option Value → pW → Prop} {Z : pZ} {I : (Nat → Nat → Int32)} {L : (Nat → Nat → Int64)} {O : (Nat → Nat → Option Nat)} {a0 : Nat} {x1 : Int32} {x2 : Int32} {x3 : Int32} {res : (Nat → Nat → Int32)} (d : Nat) (hW : WT Z O) (hZ0 : Z[a0]? = some (7, 7)) (h : f7_addClause I O a0 x1 x2 x3 = some res) (hQ : Qx none (Z, res, L, O)) : Ok g (d + 2, RX7, cX7_addClause, 4, false, 0, 0, Z.length, pSl Z) Qx 0 [(0, .ref a0), (1, .int x1), (2, .int x2), (3, .int x3)] [] (Z, I, L, O) := by
  unfold f7_addClause at h
  refine ok_aload_n dX7_addClause_0 0 rfl ?_
  refine ok_getI (ci := 7) (k := 6) dX7_addClause_1 flRX7_31 rfl hZ0 (by decide) ?_
  refine ok_if_lt (t := 16) dX7_addClause_4 (by decide) (fun hc1 => ?_) (fun hc1 => ?_)
  · have h := (if_pos hc1).symm.trans h
    cases h
    exact ok_vret dX7_addClause_16 hQ
  · have h := (if_neg hc1).symm.trans h
    refine ok_aload_n dX7_addClause_7 0 rfl ?_
    refine ok_getI (ci := 7) (k := 6) dX7_addClause_8 flRX7_31 rfl hZ0 (by decide) ?_
    refine ok_bipush (v := 24) dX7_addClause_11 (by decide) ?_
    refine ok_icmp_lt (t := 17) dX7_addClause_13 (by decide) (fun hc2 => ?_) (fun hc2 => ?_)
    · have h := (if_pos hc2).symm.trans h
      refine ok_aload_n dX7_addClause_17 0 rfl ?_
      have hT3 : Z[(rO O a0 1)]? = some (13, 24) := (wt_f (ci := 7) (k := 1) hW hZ0 rfl).2
      refine ok_getR (ci := 7) (k := 1) dX7_addClause_18 flRX7_15 rfl hW hZ0 (by decide) ?_
      refine ok_aload_n dX7_addClause_21 0 rfl ?_
      refine ok_getI (ci := 7) (k := 6) dX7_addClause_22 flRX7_31 rfl hZ0 (by decide) ?_
      refine ok_iload_n dX7_addClause_25 1 rfl ?_
      obtain ⟨hg4, h⟩ := gd h
      obtain ⟨I5, eI5, h⟩ := blE h
      refine ok_iast3 dX7_addClause_26 hT3 hg4 rfl eI5 ?_
      refine ok_aload_n dX7_addClause_27 0 rfl ?_
      have hT6 : Z[(rO O a0 2)]? = some (13, 24) := (wt_f (ci := 7) (k := 2) hW hZ0 rfl).2
      refine ok_getR (ci := 7) (k := 2) dX7_addClause_28 flRX7_18 rfl hW hZ0 (by decide) ?_
      refine ok_aload_n dX7_addClause_31 0 rfl ?_
      refine ok_getI (ci := 7) (k := 6) dX7_addClause_32 flRX7_31 rfl hZ0 (by decide) ?_
      refine ok_iload_n dX7_addClause_35 2 rfl ?_
      obtain ⟨hg7, h⟩ := gd h
      obtain ⟨I8, eI8, h⟩ := blE h
      refine ok_iast3 dX7_addClause_36 hT6 hg7 rfl eI8 ?_
      refine ok_aload_n dX7_addClause_37 0 rfl ?_
      have hT9 : Z[(rO O a0 3)]? = some (13, 24) := (wt_f (ci := 7) (k := 3) hW hZ0 rfl).2
      refine ok_getR (ci := 7) (k := 3) dX7_addClause_38 flRX7_21 rfl hW hZ0 (by decide) ?_
      refine ok_aload_n dX7_addClause_41 0 rfl ?_
      refine ok_getI (ci := 7) (k := 6) dX7_addClause_42 flRX7_31 rfl hZ0 (by decide) ?_
      refine ok_iload_n dX7_addClause_45 3 rfl ?_
      obtain ⟨hg10, h⟩ := gd h
      obtain ⟨I11, eI11, h⟩ := blE h
      refine ok_iast3 dX7_addClause_46 hT9 hg10 rfl eI11 ?_
      refine ok_iload_n dX7_addClause_47 1 rfl ?_
      refine ok_if_lt (t := 66) dX7_addClause_48 (by decide) (fun hc12 => ?_) (fun hc12 => ?_)
      · have h := (if_pos hc12).symm.trans h
        refine ok_aload_n dX7_addClause_66 0 rfl ?_
        refine ok_dup dX7_addClause_67 rfl ?_
        refine ok_getI (ci := 7) (k := 6) dX7_addClause_68 flRX7_31 rfl hZ0 (by decide) ?_
        refine ok_iconst (v := 1) dX7_addClause_71 (by decide) ?_
        refine ok_iadd dX7_addClause_72 ?_
        obtain ⟨I13, eI13, h⟩ := blE h
        refine ok_putI2 (ci := 7) (k := 6) dX7_addClause_73 flRX7_31 rfl (Or.inl rfl) hZ0 (by decide) eI13 ?_
        cases h
        exact ok_vret dX7_addClause_76 hQ
      · have h := (if_neg hc12).symm.trans h
        refine ok_iload_n dX7_addClause_51 1 rfl ?_
        refine ok_iconst (v := 2) dX7_addClause_52 (by decide) ?_
        refine ok_icmp_gt (t := 66) dX7_addClause_53 (by decide) (fun hc14 => ?_) (fun hc14 => ?_)
        · have h := (if_pos hc14).symm.trans h
          refine ok_aload_n dX7_addClause_66 0 rfl ?_
          refine ok_dup dX7_addClause_67 rfl ?_
          refine ok_getI (ci := 7) (k := 6) dX7_addClause_68 flRX7_31 rfl hZ0 (by decide) ?_
          refine ok_iconst (v := 1) dX7_addClause_71 (by decide) ?_
          refine ok_iadd dX7_addClause_72 ?_
          obtain ⟨I15, eI15, h⟩ := blE h
          refine ok_putI2 (ci := 7) (k := 6) dX7_addClause_73 flRX7_31 rfl (Or.inl rfl) hZ0 (by decide) eI15 ?_
          cases h
          exact ok_vret dX7_addClause_76 hQ
        · have h := (if_neg hc14).symm.trans h
          refine ok_aload_n dX7_addClause_56 0 rfl ?_
          have hT16 : Z[(rO O a0 4)]? = some (13, 3) := (wt_f (ci := 7) (k := 4) hW hZ0 rfl).2
          refine ok_getR (ci := 7) (k := 4) dX7_addClause_57 flRX7_24 rfl hW hZ0 (by decide) ?_
          refine ok_iload_n dX7_addClause_60 1 rfl ?_
          refine ok_aload_n dX7_addClause_61 0 rfl ?_
          refine ok_getI (ci := 7) (k := 6) dX7_addClause_62 flRX7_31 rfl hZ0 (by decide) ?_
          obtain ⟨hg17, h⟩ := gd h
          obtain ⟨I18, eI18, h⟩ := blE h
          refine ok_iast3 dX7_addClause_65 hT16 hg17 rfl eI18 ?_
          refine ok_aload_n dX7_addClause_66 0 rfl ?_
          refine ok_dup dX7_addClause_67 rfl ?_
          refine ok_getI (ci := 7) (k := 6) dX7_addClause_68 flRX7_31 rfl hZ0 (by decide) ?_
          refine ok_iconst (v := 1) dX7_addClause_71 (by decide) ?_
          refine ok_iadd dX7_addClause_72 ?_
          obtain ⟨I19, eI19, h⟩ := blE h
          refine ok_putI2 (ci := 7) (k := 6) dX7_addClause_73 flRX7_31 rfl (Or.inl rfl) hZ0 (by decide) eI19 ?_
          cases h
          exact ok_vret dX7_addClause_76 hQ
    · have h := (if_neg hc2).symm.trans h
      cases h
      exact ok_vret dX7_addClause_16 hQ
theorem k7_addClause {g : pG} {Q : Option Value → pW → Prop} {Z : pZ} {I : (Nat → Nat → Int32)} {L : (Nat → Nat → Int64)} {O : (Nat → Nat → Option Nat)} {a0 : Nat} {x1 : Int32} {x2 : Int32} {x3 : Int32} {res : (Nat → Nat → Int32)} (d : Nat) (hW : WT Z O) (hZ0 : Z[a0]? = some (7, 7)) (h : f7_addClause I O a0 x1 x2 x3 = some res) (hQ : Q none (Z, res, L, O)) : CT g (d + 2) m7_addClause 0 0 [.ref a0, .int x1, .int x2, .int x3] (Z, I, L, O) Q :=
  ct_of_ok (mt := m7_addClause) (ini := false) mo7_addClause.2.2.2.2 (fun h => by cases h) (Nat.le_of_ble_eq_true rfl) (o7_addClause d hW hZ0 h ⟨trivial, hQ, rfl, rfl⟩)
theorem dX7_stepAt_0 : decode cX7_stepAt 0 = .ok (.iload_n 1, 1) := by decide +kernel
theorem dX7_stepAt_1 : decode cX7_stepAt 1 = .ok (.ifCond .lt 27, 3) := by decide +kernel
theorem dX7_stepAt_4 : decode cX7_stepAt 4 = .ok (.iload_n 1, 1) := by decide +kernel
theorem dX7_stepAt_5 : decode cX7_stepAt 5 = .ok (.aload_n 0, 1) := by decide +kernel
theorem dX7_stepAt_6 : decode cX7_stepAt 6 = .ok (.getfield 27, 3) := by decide +kernel
theorem dX7_stepAt_9 : decode cX7_stepAt 9 = .ok (.if_icmp .ge 19, 3) := by decide +kernel
theorem dX7_stepAt_12 : decode cX7_stepAt 12 = .ok (.iload_n 1, 1) := by decide +kernel
theorem dX7_stepAt_13 : decode cX7_stepAt 13 = .ok (.sipush 300, 3) := by decide +kernel
theorem dX7_stepAt_16 : decode cX7_stepAt 16 = .ok (.if_icmp .ge 12, 3) := by decide +kernel
theorem dX7_stepAt_19 : decode cX7_stepAt 19 = .ok (.aload_n 0, 1) := by decide +kernel
theorem dX7_stepAt_20 : decode cX7_stepAt 20 = .ok (.getfield 9, 3) := by decide +kernel
theorem dX7_stepAt_23 : decode cX7_stepAt 23 = .ok (.iload_n 1, 1) := by decide +kernel
theorem dX7_stepAt_24 : decode cX7_stepAt 24 = .ok (.iaload, 1) := by decide +kernel
theorem dX7_stepAt_25 : decode cX7_stepAt 25 = .ok (.goto 4, 3) := by decide +kernel
theorem dX7_stepAt_28 : decode cX7_stepAt 28 = .ok (.iconst 0, 1) := by decide +kernel
theorem dX7_stepAt_29 : decode cX7_stepAt 29 = .ok (.ireturn, 1) := by decide +kernel
def m7_stepAt : pMT := (yX7_stepAt, cX7_stepAt, 2, some .int)
theorem mo7_stepAt : mOK m7_stepAt 1 := ⟨tb_i 755 (by decide +kernel), wi_RX7, ⟨wn_RX7.1, wn_RX7.2, by decide +kernel⟩, by decide, plainFor_of_name wp_RX7⟩
theorem mv7_stepAt : mV m7_stepAt := ⟨tb_i 753 (by decide +kernel), tb_i 754 (by decide +kernel)⟩
def f7_stepAt (I : (Nat → Nat → Int32)) (O : (Nat → Nat → Option Nat)) (a0 : Nat) (x1 : Int32) : Option (Int32) := (if x1 < 0 then some ((0 : Int32)) else (if (I a0 5) ≤ x1 then some ((0 : Int32)) else (if (300 : Int32) ≤ x1 then some ((0 : Int32)) else (if x1 < 0 ∨ 300 ≤ x1.toNatClampNeg then none else some ((I (rO O a0 0) x1.toNatClampNeg))))))
set_option maxHeartbeats 4000000 in
set_option maxRecDepth 20000 in
theorem o7_stepAt {g : pG} {Qx : Option Value → pW → Prop} {Z : pZ} {I : (Nat → Nat → Int32)} {L : (Nat → Nat → Int64)} {O : (Nat → Nat → Option Nat)} {a0 : Nat} {x1 : Int32} {res : Int32} (d : Nat) (hW : WT Z O) (hZ0 : Z[a0]? = some (7, 7)) (h : f7_stepAt I O a0 x1 = some res) (hQ : Qx (some (.int res)) (Z, I, L, O)) : Ok g (d + 2, RX7, cX7_stepAt, 2, false, 0, 0, Z.length, pSl Z) Qx 0 [(0, .ref a0), (1, .int x1)] [] (Z, I, L, O) := by
  unfold f7_stepAt at h
  refine ok_iload_n dX7_stepAt_0 1 rfl ?_
  refine ok_if_lt (t := 28) dX7_stepAt_1 (by decide) (fun hc1 => ?_) (fun hc1 => ?_)
  · have h := (if_pos hc1).symm.trans h
    refine ok_iconst (v := 0) dX7_stepAt_28 (by decide) ?_
    cases h
    exact ok_iret dX7_stepAt_29 hQ
  · have h := (if_neg hc1).symm.trans h
    refine ok_iload_n dX7_stepAt_4 1 rfl ?_
    refine ok_aload_n dX7_stepAt_5 0 rfl ?_
    refine ok_getI (ci := 7) (k := 5) dX7_stepAt_6 flRX7_27 rfl hZ0 (by decide) ?_
    refine ok_icmp_ge (t := 28) dX7_stepAt_9 (by decide) (fun hc2 => ?_) (fun hc2 => ?_)
    · have h := (if_pos hc2).symm.trans h
      refine ok_iconst (v := 0) dX7_stepAt_28 (by decide) ?_
      cases h
      exact ok_iret dX7_stepAt_29 hQ
    · have h := (if_neg hc2).symm.trans h
      refine ok_iload_n dX7_stepAt_12 1 rfl ?_
      refine ok_sipush (v := 300) dX7_stepAt_13 (by decide) ?_
      refine ok_icmp_ge (t := 28) dX7_stepAt_16 (by decide) (fun hc3 => ?_) (fun hc3 => ?_)
      · have h := (if_pos hc3).symm.trans h
        refine ok_iconst (v := 0) dX7_stepAt_28 (by decide) ?_
        cases h
        exact ok_iret dX7_stepAt_29 hQ
      · have h := (if_neg hc3).symm.trans h
        refine ok_aload_n dX7_stepAt_19 0 rfl ?_
        have hT4 : Z[(rO O a0 0)]? = some (13, 300) := (wt_f (ci := 7) (k := 0) hW hZ0 rfl).2
        refine ok_getR (ci := 7) (k := 0) dX7_stepAt_20 flRX7_9 rfl hW hZ0 (by decide) ?_
        refine ok_iload_n dX7_stepAt_23 1 rfl ?_
        obtain ⟨hg5, h⟩ := gd h
        refine ok_iald2 (N := x1.toNatClampNeg) dX7_stepAt_24 hT4 hg5 rfl ?_
        refine ok_goto (t := 29) dX7_stepAt_25 (by decide) ?_
        cases h
        exact ok_iret dX7_stepAt_29 hQ
theorem k7_stepAt {g : pG} {Q : Option Value → pW → Prop} {Z : pZ} {I : (Nat → Nat → Int32)} {L : (Nat → Nat → Int64)} {O : (Nat → Nat → Option Nat)} {a0 : Nat} {x1 : Int32} {res : Int32} (d : Nat) (hW : WT Z O) (hZ0 : Z[a0]? = some (7, 7)) (h : f7_stepAt I O a0 x1 = some res) (hQ : Q (some (.int res)) (Z, I, L, O)) : CT g (d + 2) m7_stepAt 0 0 [.ref a0, .int x1] (Z, I, L, O) Q :=
  ct_of_ok (mt := m7_stepAt) (ini := false) mo7_stepAt.2.2.2.2 (fun h => by cases h) (Nat.le_of_ble_eq_true rfl) (o7_stepAt d hW hZ0 h ⟨trivial, hQ, rfl, rfl⟩)
theorem dX7_kind_0 : decode cX7_kind 0 = .ok (.iload_n 1, 1) := by decide +kernel
theorem dX7_kind_1 : decode cX7_kind 1 = .ok (.ifCond .lt 26, 3) := by decide +kernel
theorem dX7_kind_4 : decode cX7_kind 4 = .ok (.iload_n 1, 1) := by decide +kernel
theorem dX7_kind_5 : decode cX7_kind 5 = .ok (.aload_n 0, 1) := by decide +kernel
theorem dX7_kind_6 : decode cX7_kind 6 = .ok (.getfield 31, 3) := by decide +kernel
theorem dX7_kind_9 : decode cX7_kind 9 = .ok (.if_icmp .ge 18, 3) := by decide +kernel
theorem dX7_kind_12 : decode cX7_kind 12 = .ok (.iload_n 1, 1) := by decide +kernel
theorem dX7_kind_13 : decode cX7_kind 13 = .ok (.bipush 24, 2) := by decide +kernel
theorem dX7_kind_15 : decode cX7_kind 15 = .ok (.if_icmp .ge 12, 3) := by decide +kernel
theorem dX7_kind_18 : decode cX7_kind 18 = .ok (.aload_n 0, 1) := by decide +kernel
theorem dX7_kind_19 : decode cX7_kind 19 = .ok (.getfield 15, 3) := by decide +kernel
theorem dX7_kind_22 : decode cX7_kind 22 = .ok (.iload_n 1, 1) := by decide +kernel
theorem dX7_kind_23 : decode cX7_kind 23 = .ok (.iaload, 1) := by decide +kernel
theorem dX7_kind_24 : decode cX7_kind 24 = .ok (.goto 4, 3) := by decide +kernel
theorem dX7_kind_27 : decode cX7_kind 27 = .ok (.iconst (-1), 1) := by decide +kernel
theorem dX7_kind_28 : decode cX7_kind 28 = .ok (.ireturn, 1) := by decide +kernel
def m7_kind : pMT := (yX7_kind, cX7_kind, 2, some .int)
theorem mo7_kind : mOK m7_kind 1 := ⟨tb_i 858 (by decide +kernel), wi_RX7, ⟨wn_RX7.1, wn_RX7.2, by decide +kernel⟩, by decide, plainFor_of_name wp_RX7⟩
theorem mv7_kind : mV m7_kind := ⟨tb_i 856 (by decide +kernel), tb_i 857 (by decide +kernel)⟩
def f7_kind (I : (Nat → Nat → Int32)) (O : (Nat → Nat → Option Nat)) (a0 : Nat) (x1 : Int32) : Option (Int32) := (if x1 < 0 then some (((-1) : Int32)) else (if (I a0 6) ≤ x1 then some (((-1) : Int32)) else (if (24 : Int32) ≤ x1 then some (((-1) : Int32)) else (if x1 < 0 ∨ 24 ≤ x1.toNatClampNeg then none else some ((I (rO O a0 1) x1.toNatClampNeg))))))
set_option maxHeartbeats 4000000 in
set_option maxRecDepth 20000 in
theorem o7_kind {g : pG} {Qx : Option Value → pW → Prop} {Z : pZ} {I : (Nat → Nat → Int32)} {L : (Nat → Nat → Int64)} {O : (Nat → Nat → Option Nat)} {a0 : Nat} {x1 : Int32} {res : Int32} (d : Nat) (hW : WT Z O) (hZ0 : Z[a0]? = some (7, 7)) (h : f7_kind I O a0 x1 = some res) (hQ : Qx (some (.int res)) (Z, I, L, O)) : Ok g (d + 2, RX7, cX7_kind, 2, false, 0, 0, Z.length, pSl Z) Qx 0 [(0, .ref a0), (1, .int x1)] [] (Z, I, L, O) := by
  unfold f7_kind at h
  refine ok_iload_n dX7_kind_0 1 rfl ?_
  refine ok_if_lt (t := 27) dX7_kind_1 (by decide) (fun hc1 => ?_) (fun hc1 => ?_)
  · have h := (if_pos hc1).symm.trans h
    refine ok_iconst (v := (-1)) dX7_kind_27 (by decide) ?_
    cases h
    exact ok_iret dX7_kind_28 hQ
  · have h := (if_neg hc1).symm.trans h
    refine ok_iload_n dX7_kind_4 1 rfl ?_
    refine ok_aload_n dX7_kind_5 0 rfl ?_
    refine ok_getI (ci := 7) (k := 6) dX7_kind_6 flRX7_31 rfl hZ0 (by decide) ?_
    refine ok_icmp_ge (t := 27) dX7_kind_9 (by decide) (fun hc2 => ?_) (fun hc2 => ?_)
    · have h := (if_pos hc2).symm.trans h
      refine ok_iconst (v := (-1)) dX7_kind_27 (by decide) ?_
      cases h
      exact ok_iret dX7_kind_28 hQ
    · have h := (if_neg hc2).symm.trans h
      refine ok_iload_n dX7_kind_12 1 rfl ?_
      refine ok_bipush (v := 24) dX7_kind_13 (by decide) ?_
      refine ok_icmp_ge (t := 27) dX7_kind_15 (by decide) (fun hc3 => ?_) (fun hc3 => ?_)
      · have h := (if_pos hc3).symm.trans h
        refine ok_iconst (v := (-1)) dX7_kind_27 (by decide) ?_
        cases h
        exact ok_iret dX7_kind_28 hQ
      · have h := (if_neg hc3).symm.trans h
        refine ok_aload_n dX7_kind_18 0 rfl ?_
        have hT4 : Z[(rO O a0 1)]? = some (13, 24) := (wt_f (ci := 7) (k := 1) hW hZ0 rfl).2
        refine ok_getR (ci := 7) (k := 1) dX7_kind_19 flRX7_15 rfl hW hZ0 (by decide) ?_
        refine ok_iload_n dX7_kind_22 1 rfl ?_
        obtain ⟨hg5, h⟩ := gd h
        refine ok_iald2 (N := x1.toNatClampNeg) dX7_kind_23 hT4 hg5 rfl ?_
        refine ok_goto (t := 28) dX7_kind_24 (by decide) ?_
        cases h
        exact ok_iret dX7_kind_28 hQ
theorem k7_kind {g : pG} {Q : Option Value → pW → Prop} {Z : pZ} {I : (Nat → Nat → Int32)} {L : (Nat → Nat → Int64)} {O : (Nat → Nat → Option Nat)} {a0 : Nat} {x1 : Int32} {res : Int32} (d : Nat) (hW : WT Z O) (hZ0 : Z[a0]? = some (7, 7)) (h : f7_kind I O a0 x1 = some res) (hQ : Q (some (.int res)) (Z, I, L, O)) : CT g (d + 2) m7_kind 0 0 [.ref a0, .int x1] (Z, I, L, O) Q :=
  ct_of_ok (mt := m7_kind) (ini := false) mo7_kind.2.2.2.2 (fun h => by cases h) (Nat.le_of_ble_eq_true rfl) (o7_kind d hW hZ0 h ⟨trivial, hQ, rfl, rfl⟩)
theorem dX7_first_0 : decode cX7_first 0 = .ok (.iload_n 1, 1) := by decide +kernel
theorem dX7_first_1 : decode cX7_first 1 = .ok (.ifCond .lt 26, 3) := by decide +kernel
theorem dX7_first_4 : decode cX7_first 4 = .ok (.iload_n 1, 1) := by decide +kernel
theorem dX7_first_5 : decode cX7_first 5 = .ok (.aload_n 0, 1) := by decide +kernel
theorem dX7_first_6 : decode cX7_first 6 = .ok (.getfield 31, 3) := by decide +kernel
theorem dX7_first_9 : decode cX7_first 9 = .ok (.if_icmp .ge 18, 3) := by decide +kernel
theorem dX7_first_12 : decode cX7_first 12 = .ok (.iload_n 1, 1) := by decide +kernel
theorem dX7_first_13 : decode cX7_first 13 = .ok (.bipush 24, 2) := by decide +kernel
theorem dX7_first_15 : decode cX7_first 15 = .ok (.if_icmp .ge 12, 3) := by decide +kernel
theorem dX7_first_18 : decode cX7_first 18 = .ok (.aload_n 0, 1) := by decide +kernel
theorem dX7_first_19 : decode cX7_first 19 = .ok (.getfield 18, 3) := by decide +kernel
theorem dX7_first_22 : decode cX7_first 22 = .ok (.iload_n 1, 1) := by decide +kernel
theorem dX7_first_23 : decode cX7_first 23 = .ok (.iaload, 1) := by decide +kernel
theorem dX7_first_24 : decode cX7_first 24 = .ok (.goto 4, 3) := by decide +kernel
theorem dX7_first_27 : decode cX7_first 27 = .ok (.iconst 0, 1) := by decide +kernel
theorem dX7_first_28 : decode cX7_first 28 = .ok (.ireturn, 1) := by decide +kernel
def m7_first : pMT := (yX7_first, cX7_first, 2, some .int)
theorem mo7_first : mOK m7_first 1 := ⟨tb_i 751 (by decide +kernel), wi_RX7, ⟨wn_RX7.1, wn_RX7.2, by decide +kernel⟩, by decide, plainFor_of_name wp_RX7⟩
theorem mv7_first : mV m7_first := ⟨tb_i 749 (by decide +kernel), tb_i 750 (by decide +kernel)⟩
def f7_first (I : (Nat → Nat → Int32)) (O : (Nat → Nat → Option Nat)) (a0 : Nat) (x1 : Int32) : Option (Int32) := (if x1 < 0 then some ((0 : Int32)) else (if (I a0 6) ≤ x1 then some ((0 : Int32)) else (if (24 : Int32) ≤ x1 then some ((0 : Int32)) else (if x1 < 0 ∨ 24 ≤ x1.toNatClampNeg then none else some ((I (rO O a0 2) x1.toNatClampNeg))))))
set_option maxHeartbeats 4000000 in
set_option maxRecDepth 20000 in
theorem o7_first {g : pG} {Qx : Option Value → pW → Prop} {Z : pZ} {I : (Nat → Nat → Int32)} {L : (Nat → Nat → Int64)} {O : (Nat → Nat → Option Nat)} {a0 : Nat} {x1 : Int32} {res : Int32} (d : Nat) (hW : WT Z O) (hZ0 : Z[a0]? = some (7, 7)) (h : f7_first I O a0 x1 = some res) (hQ : Qx (some (.int res)) (Z, I, L, O)) : Ok g (d + 2, RX7, cX7_first, 2, false, 0, 0, Z.length, pSl Z) Qx 0 [(0, .ref a0), (1, .int x1)] [] (Z, I, L, O) := by
  unfold f7_first at h
  refine ok_iload_n dX7_first_0 1 rfl ?_
  refine ok_if_lt (t := 27) dX7_first_1 (by decide) (fun hc1 => ?_) (fun hc1 => ?_)
  · have h := (if_pos hc1).symm.trans h
    refine ok_iconst (v := 0) dX7_first_27 (by decide) ?_
    cases h
    exact ok_iret dX7_first_28 hQ
  · have h := (if_neg hc1).symm.trans h
    refine ok_iload_n dX7_first_4 1 rfl ?_
    refine ok_aload_n dX7_first_5 0 rfl ?_
    refine ok_getI (ci := 7) (k := 6) dX7_first_6 flRX7_31 rfl hZ0 (by decide) ?_
    refine ok_icmp_ge (t := 27) dX7_first_9 (by decide) (fun hc2 => ?_) (fun hc2 => ?_)
    · have h := (if_pos hc2).symm.trans h
      refine ok_iconst (v := 0) dX7_first_27 (by decide) ?_
      cases h
      exact ok_iret dX7_first_28 hQ
    · have h := (if_neg hc2).symm.trans h
      refine ok_iload_n dX7_first_12 1 rfl ?_
      refine ok_bipush (v := 24) dX7_first_13 (by decide) ?_
      refine ok_icmp_ge (t := 27) dX7_first_15 (by decide) (fun hc3 => ?_) (fun hc3 => ?_)
      · have h := (if_pos hc3).symm.trans h
        refine ok_iconst (v := 0) dX7_first_27 (by decide) ?_
        cases h
        exact ok_iret dX7_first_28 hQ
      · have h := (if_neg hc3).symm.trans h
        refine ok_aload_n dX7_first_18 0 rfl ?_
        have hT4 : Z[(rO O a0 2)]? = some (13, 24) := (wt_f (ci := 7) (k := 2) hW hZ0 rfl).2
        refine ok_getR (ci := 7) (k := 2) dX7_first_19 flRX7_18 rfl hW hZ0 (by decide) ?_
        refine ok_iload_n dX7_first_22 1 rfl ?_
        obtain ⟨hg5, h⟩ := gd h
        refine ok_iald2 (N := x1.toNatClampNeg) dX7_first_23 hT4 hg5 rfl ?_
        refine ok_goto (t := 28) dX7_first_24 (by decide) ?_
        cases h
        exact ok_iret dX7_first_28 hQ
theorem k7_first {g : pG} {Q : Option Value → pW → Prop} {Z : pZ} {I : (Nat → Nat → Int32)} {L : (Nat → Nat → Int64)} {O : (Nat → Nat → Option Nat)} {a0 : Nat} {x1 : Int32} {res : Int32} (d : Nat) (hW : WT Z O) (hZ0 : Z[a0]? = some (7, 7)) (h : f7_first I O a0 x1 = some res) (hQ : Q (some (.int res)) (Z, I, L, O)) : CT g (d + 2) m7_first 0 0 [.ref a0, .int x1] (Z, I, L, O) Q :=
  ct_of_ok (mt := m7_first) (ini := false) mo7_first.2.2.2.2 (fun h => by cases h) (Nat.le_of_ble_eq_true rfl) (o7_first d hW hZ0 h ⟨trivial, hQ, rfl, rfl⟩)
theorem dX7_second_0 : decode cX7_second 0 = .ok (.iload_n 1, 1) := by decide +kernel
theorem dX7_second_1 : decode cX7_second 1 = .ok (.ifCond .lt 26, 3) := by decide +kernel
theorem dX7_second_4 : decode cX7_second 4 = .ok (.iload_n 1, 1) := by decide +kernel
theorem dX7_second_5 : decode cX7_second 5 = .ok (.aload_n 0, 1) := by decide +kernel
theorem dX7_second_6 : decode cX7_second 6 = .ok (.getfield 31, 3) := by decide +kernel
theorem dX7_second_9 : decode cX7_second 9 = .ok (.if_icmp .ge 18, 3) := by decide +kernel
theorem dX7_second_12 : decode cX7_second 12 = .ok (.iload_n 1, 1) := by decide +kernel
theorem dX7_second_13 : decode cX7_second 13 = .ok (.bipush 24, 2) := by decide +kernel
theorem dX7_second_15 : decode cX7_second 15 = .ok (.if_icmp .ge 12, 3) := by decide +kernel
theorem dX7_second_18 : decode cX7_second 18 = .ok (.aload_n 0, 1) := by decide +kernel
theorem dX7_second_19 : decode cX7_second 19 = .ok (.getfield 21, 3) := by decide +kernel
theorem dX7_second_22 : decode cX7_second 22 = .ok (.iload_n 1, 1) := by decide +kernel
theorem dX7_second_23 : decode cX7_second 23 = .ok (.iaload, 1) := by decide +kernel
theorem dX7_second_24 : decode cX7_second 24 = .ok (.goto 4, 3) := by decide +kernel
theorem dX7_second_27 : decode cX7_second 27 = .ok (.iconst 0, 1) := by decide +kernel
theorem dX7_second_28 : decode cX7_second 28 = .ok (.ireturn, 1) := by decide +kernel
def m7_second : pMT := (yX7_second, cX7_second, 2, some .int)
theorem mo7_second : mOK m7_second 1 := ⟨tb_i 747 (by decide +kernel), wi_RX7, ⟨wn_RX7.1, wn_RX7.2, by decide +kernel⟩, by decide, plainFor_of_name wp_RX7⟩
theorem mv7_second : mV m7_second := ⟨tb_i 745 (by decide +kernel), tb_i 746 (by decide +kernel)⟩
def f7_second (I : (Nat → Nat → Int32)) (O : (Nat → Nat → Option Nat)) (a0 : Nat) (x1 : Int32) : Option (Int32) := (if x1 < 0 then some ((0 : Int32)) else (if (I a0 6) ≤ x1 then some ((0 : Int32)) else (if (24 : Int32) ≤ x1 then some ((0 : Int32)) else (if x1 < 0 ∨ 24 ≤ x1.toNatClampNeg then none else some ((I (rO O a0 3) x1.toNatClampNeg))))))
set_option maxHeartbeats 4000000 in
set_option maxRecDepth 20000 in
theorem o7_second {g : pG} {Qx : Option Value → pW → Prop} {Z : pZ} {I : (Nat → Nat → Int32)} {L : (Nat → Nat → Int64)} {O : (Nat → Nat → Option Nat)} {a0 : Nat} {x1 : Int32} {res : Int32} (d : Nat) (hW : WT Z O) (hZ0 : Z[a0]? = some (7, 7)) (h : f7_second I O a0 x1 = some res) (hQ : Qx (some (.int res)) (Z, I, L, O)) : Ok g (d + 2, RX7, cX7_second, 2, false, 0, 0, Z.length, pSl Z) Qx 0 [(0, .ref a0), (1, .int x1)] [] (Z, I, L, O) := by
  unfold f7_second at h
  refine ok_iload_n dX7_second_0 1 rfl ?_
  refine ok_if_lt (t := 27) dX7_second_1 (by decide) (fun hc1 => ?_) (fun hc1 => ?_)
  · have h := (if_pos hc1).symm.trans h
    refine ok_iconst (v := 0) dX7_second_27 (by decide) ?_
    cases h
    exact ok_iret dX7_second_28 hQ
  · have h := (if_neg hc1).symm.trans h
    refine ok_iload_n dX7_second_4 1 rfl ?_
    refine ok_aload_n dX7_second_5 0 rfl ?_
    refine ok_getI (ci := 7) (k := 6) dX7_second_6 flRX7_31 rfl hZ0 (by decide) ?_
    refine ok_icmp_ge (t := 27) dX7_second_9 (by decide) (fun hc2 => ?_) (fun hc2 => ?_)
    · have h := (if_pos hc2).symm.trans h
      refine ok_iconst (v := 0) dX7_second_27 (by decide) ?_
      cases h
      exact ok_iret dX7_second_28 hQ
    · have h := (if_neg hc2).symm.trans h
      refine ok_iload_n dX7_second_12 1 rfl ?_
      refine ok_bipush (v := 24) dX7_second_13 (by decide) ?_
      refine ok_icmp_ge (t := 27) dX7_second_15 (by decide) (fun hc3 => ?_) (fun hc3 => ?_)
      · have h := (if_pos hc3).symm.trans h
        refine ok_iconst (v := 0) dX7_second_27 (by decide) ?_
        cases h
        exact ok_iret dX7_second_28 hQ
      · have h := (if_neg hc3).symm.trans h
        refine ok_aload_n dX7_second_18 0 rfl ?_
        have hT4 : Z[(rO O a0 3)]? = some (13, 24) := (wt_f (ci := 7) (k := 3) hW hZ0 rfl).2
        refine ok_getR (ci := 7) (k := 3) dX7_second_19 flRX7_21 rfl hW hZ0 (by decide) ?_
        refine ok_iload_n dX7_second_22 1 rfl ?_
        obtain ⟨hg5, h⟩ := gd h
        refine ok_iald2 (N := x1.toNatClampNeg) dX7_second_23 hT4 hg5 rfl ?_
        refine ok_goto (t := 28) dX7_second_24 (by decide) ?_
        cases h
        exact ok_iret dX7_second_28 hQ
theorem k7_second {g : pG} {Q : Option Value → pW → Prop} {Z : pZ} {I : (Nat → Nat → Int32)} {L : (Nat → Nat → Int64)} {O : (Nat → Nat → Option Nat)} {a0 : Nat} {x1 : Int32} {res : Int32} (d : Nat) (hW : WT Z O) (hZ0 : Z[a0]? = some (7, 7)) (h : f7_second I O a0 x1 = some res) (hQ : Q (some (.int res)) (Z, I, L, O)) : CT g (d + 2) m7_second 0 0 [.ref a0, .int x1] (Z, I, L, O) Q :=
  ct_of_ok (mt := m7_second) (ini := false) mo7_second.2.2.2.2 (fun h => by cases h) (Nat.le_of_ble_eq_true rfl) (o7_second d hW hZ0 h ⟨trivial, hQ, rfl, rfl⟩)
theorem dX7_lawAt_0 : decode cX7_lawAt 0 = .ok (.iload_n 1, 1) := by decide +kernel
theorem dX7_lawAt_1 : decode cX7_lawAt 1 = .ok (.ifCond .lt 17, 3) := by decide +kernel
theorem dX7_lawAt_4 : decode cX7_lawAt 4 = .ok (.iload_n 1, 1) := by decide +kernel
theorem dX7_lawAt_5 : decode cX7_lawAt 5 = .ok (.iconst 2, 1) := by decide +kernel
theorem dX7_lawAt_6 : decode cX7_lawAt 6 = .ok (.if_icmp .gt 12, 3) := by decide +kernel
theorem dX7_lawAt_9 : decode cX7_lawAt 9 = .ok (.aload_n 0, 1) := by decide +kernel
theorem dX7_lawAt_10 : decode cX7_lawAt 10 = .ok (.getfield 24, 3) := by decide +kernel
theorem dX7_lawAt_13 : decode cX7_lawAt 13 = .ok (.iload_n 1, 1) := by decide +kernel
theorem dX7_lawAt_14 : decode cX7_lawAt 14 = .ok (.iaload, 1) := by decide +kernel
theorem dX7_lawAt_15 : decode cX7_lawAt 15 = .ok (.goto 4, 3) := by decide +kernel
theorem dX7_lawAt_18 : decode cX7_lawAt 18 = .ok (.iconst (-1), 1) := by decide +kernel
theorem dX7_lawAt_19 : decode cX7_lawAt 19 = .ok (.ireturn, 1) := by decide +kernel
def m7_lawAt : pMT := (yX7_lawAt, cX7_lawAt, 2, some .int)
theorem mo7_lawAt : mOK m7_lawAt 1 := ⟨tb_i 564 (by decide +kernel), wi_RX7, ⟨wn_RX7.1, wn_RX7.2, by decide +kernel⟩, by decide, plainFor_of_name wp_RX7⟩
theorem mv7_lawAt : mV m7_lawAt := ⟨tb_i 562 (by decide +kernel), tb_i 563 (by decide +kernel)⟩
def f7_lawAt (I : (Nat → Nat → Int32)) (O : (Nat → Nat → Option Nat)) (a0 : Nat) (x1 : Int32) : Option (Int32) := (if x1 < 0 then some (((-1) : Int32)) else (if (2 : Int32) < x1 then some (((-1) : Int32)) else (if x1 < 0 ∨ 3 ≤ x1.toNatClampNeg then none else some ((I (rO O a0 4) x1.toNatClampNeg)))))
set_option maxHeartbeats 4000000 in
set_option maxRecDepth 20000 in
theorem o7_lawAt {g : pG} {Qx : Option Value → pW → Prop} {Z : pZ} {I : (Nat → Nat → Int32)} {L : (Nat → Nat → Int64)} {O : (Nat → Nat → Option Nat)} {a0 : Nat} {x1 : Int32} {res : Int32} (d : Nat) (hW : WT Z O) (hZ0 : Z[a0]? = some (7, 7)) (h : f7_lawAt I O a0 x1 = some res) (hQ : Qx (some (.int res)) (Z, I, L, O)) : Ok g (d + 2, RX7, cX7_lawAt, 2, false, 0, 0, Z.length, pSl Z) Qx 0 [(0, .ref a0), (1, .int x1)] [] (Z, I, L, O) := by
  unfold f7_lawAt at h
  refine ok_iload_n dX7_lawAt_0 1 rfl ?_
  refine ok_if_lt (t := 18) dX7_lawAt_1 (by decide) (fun hc1 => ?_) (fun hc1 => ?_)
  · have h := (if_pos hc1).symm.trans h
    refine ok_iconst (v := (-1)) dX7_lawAt_18 (by decide) ?_
    cases h
    exact ok_iret dX7_lawAt_19 hQ
  · have h := (if_neg hc1).symm.trans h
    refine ok_iload_n dX7_lawAt_4 1 rfl ?_
    refine ok_iconst (v := 2) dX7_lawAt_5 (by decide) ?_
    refine ok_icmp_gt (t := 18) dX7_lawAt_6 (by decide) (fun hc2 => ?_) (fun hc2 => ?_)
    · have h := (if_pos hc2).symm.trans h
      refine ok_iconst (v := (-1)) dX7_lawAt_18 (by decide) ?_
      cases h
      exact ok_iret dX7_lawAt_19 hQ
    · have h := (if_neg hc2).symm.trans h
      refine ok_aload_n dX7_lawAt_9 0 rfl ?_
      have hT3 : Z[(rO O a0 4)]? = some (13, 3) := (wt_f (ci := 7) (k := 4) hW hZ0 rfl).2
      refine ok_getR (ci := 7) (k := 4) dX7_lawAt_10 flRX7_24 rfl hW hZ0 (by decide) ?_
      refine ok_iload_n dX7_lawAt_13 1 rfl ?_
      obtain ⟨hg4, h⟩ := gd h
      refine ok_iald2 (N := x1.toNatClampNeg) dX7_lawAt_14 hT3 hg4 rfl ?_
      refine ok_goto (t := 19) dX7_lawAt_15 (by decide) ?_
      cases h
      exact ok_iret dX7_lawAt_19 hQ
theorem k7_lawAt {g : pG} {Q : Option Value → pW → Prop} {Z : pZ} {I : (Nat → Nat → Int32)} {L : (Nat → Nat → Int64)} {O : (Nat → Nat → Option Nat)} {a0 : Nat} {x1 : Int32} {res : Int32} (d : Nat) (hW : WT Z O) (hZ0 : Z[a0]? = some (7, 7)) (h : f7_lawAt I O a0 x1 = some res) (hQ : Q (some (.int res)) (Z, I, L, O)) : CT g (d + 2) m7_lawAt 0 0 [.ref a0, .int x1] (Z, I, L, O) Q :=
  ct_of_ok (mt := m7_lawAt) (ini := false) mo7_lawAt.2.2.2.2 (fun h => by cases h) (Nat.le_of_ble_eq_true rfl) (o7_lawAt d hW hZ0 h ⟨trivial, hQ, rfl, rfl⟩)
theorem dX7_hasLaw_0 : decode cX7_hasLaw 0 = .ok (.aload_n 0, 1) := by decide +kernel
theorem dX7_hasLaw_1 : decode cX7_hasLaw 1 = .ok (.iload_n 1, 1) := by decide +kernel
theorem dX7_hasLaw_2 : decode cX7_hasLaw 2 = .ok (.invokevirtual 40, 3) := by decide +kernel
theorem dX7_hasLaw_5 : decode cX7_hasLaw 5 = .ok (.iconst (-1), 1) := by decide +kernel
theorem dX7_hasLaw_6 : decode cX7_hasLaw 6 = .ok (.if_icmp .eq 7, 3) := by decide +kernel
theorem dX7_hasLaw_9 : decode cX7_hasLaw 9 = .ok (.iconst 1, 1) := by decide +kernel
theorem dX7_hasLaw_10 : decode cX7_hasLaw 10 = .ok (.goto 4, 3) := by decide +kernel
theorem dX7_hasLaw_13 : decode cX7_hasLaw 13 = .ok (.iconst 0, 1) := by decide +kernel
theorem dX7_hasLaw_14 : decode cX7_hasLaw 14 = .ok (.ireturn, 1) := by decide +kernel
def m7_hasLaw : pMT := (yX7_hasLaw, cX7_hasLaw, 2, some .boolean)
theorem mo7_hasLaw : mOK m7_hasLaw 1 := ⟨tb_i 560 (by decide +kernel), wi_RX7, ⟨wn_RX7.1, wn_RX7.2, by decide +kernel⟩, by decide, plainFor_of_name wp_RX7⟩
theorem mv7_hasLaw : mV m7_hasLaw := ⟨tb_i 558 (by decide +kernel), tb_i 559 (by decide +kernel)⟩
def f7_hasLaw (I : (Nat → Nat → Int32)) (O : (Nat → Nat → Option Nat)) (a0 : Nat) (x1 : Int32) : Option (Int32) := (f7_lawAt I O a0 x1).bind fun r1 => (if r1 = (-1 : Int32) then some ((0 : Int32)) else some ((1 : Int32)))
set_option maxHeartbeats 4000000 in
set_option maxRecDepth 20000 in
theorem o7_hasLaw {g : pG} {Qx : Option Value → pW → Prop} {Z : pZ} {I : (Nat → Nat → Int32)} {L : (Nat → Nat → Int64)} {O : (Nat → Nat → Option Nat)} {a0 : Nat} {x1 : Int32} {res : Int32} (d : Nat) (hW : WT Z O) (hZ0 : Z[a0]? = some (7, 7)) (h : f7_hasLaw I O a0 x1 = some res) (hQ : (res = 0 ∨ res = 1) → Qx (some (.int res)) (Z, I, L, O)) : Ok g (d + 3, RX7, cX7_hasLaw, 2, false, 0, 0, Z.length, pSl Z) Qx 0 [(0, .ref a0), (1, .int x1)] [] (Z, I, L, O) := by
  unfold f7_hasLaw at h
  refine ok_aload_n dX7_hasLaw_0 0 rfl ?_
  refine ok_iload_n dX7_hasLaw_1 1 rfl ?_
  obtain ⟨r1, hr2, h⟩ := bd h
  refine ok_callV (d := ((d + 0) + 2)) (mt := m7_lawAt) (mc := 0) (ms := 0) (As := [.int x1]) (r := []) dX7_hasLaw_2 mo7_lawAt mv7_lawAt lkRX7_40 rfl hZ0 (q := (RX7, TX7, 7)) rfl rfl rfl (Nat.le_of_ble_eq_true rfl) (by show _ + 1 ≤ d + _; omega) (Nat.le_refl _) (Nat.le_refl _) (pRt_mono ?_)
  refine k7_lawAt (d + 0) hW hZ0 hr2 ?_
  intro _
  show Ok g _ Qx 5 [(0, .ref a0), (1, .int x1)] [.int r1] (Z, I, L, O)
  refine ok_iconst (v := (-1)) dX7_hasLaw_5 (by decide) ?_
  refine ok_icmp_eq (t := 13) dX7_hasLaw_6 (by decide) (fun hc3 => ?_) (fun hc3 => ?_)
  · have h := (if_pos hc3).symm.trans h
    refine ok_iconst (v := 0) dX7_hasLaw_13 (by decide) ?_
    cases h
    exact ok_iret dX7_hasLaw_14 (hQ (Or.inl rfl))
  · have h := (if_neg hc3).symm.trans h
    refine ok_iconst (v := 1) dX7_hasLaw_9 (by decide) ?_
    refine ok_goto (t := 14) dX7_hasLaw_10 (by decide) ?_
    cases h
    exact ok_iret dX7_hasLaw_14 (hQ (Or.inr rfl))
theorem k7_hasLaw {g : pG} {Q : Option Value → pW → Prop} {Z : pZ} {I : (Nat → Nat → Int32)} {L : (Nat → Nat → Int64)} {O : (Nat → Nat → Option Nat)} {a0 : Nat} {x1 : Int32} {res : Int32} (d : Nat) (hW : WT Z O) (hZ0 : Z[a0]? = some (7, 7)) (h : f7_hasLaw I O a0 x1 = some res) (hQ : Q (some (.int res)) (Z, I, L, O)) : CT g (d + 3) m7_hasLaw 0 0 [.ref a0, .int x1] (Z, I, L, O) Q :=
  ct_of_ok (mt := m7_hasLaw) (ini := false) mo7_hasLaw.2.2.2.2 (fun h => by cases h) (Nat.le_of_ble_eq_true rfl) (o7_hasLaw d hW hZ0 h (fun hb => ⟨hb, hQ, rfl, rfl⟩))
