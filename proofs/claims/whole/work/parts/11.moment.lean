theorem flRX3_9 : FL RX3 9 3 0 := ⟨(RX3, TX3, 6), rfl, by decide, tb_i 48 (by decide +kernel)⟩
theorem flRX3_15 : FL RX3 15 3 1 := ⟨(RX3, TX3, 6), rfl, by decide, tb_i 52 (by decide +kernel)⟩
theorem flRX3_18 : FL RX3 18 3 2 := ⟨(RX3, TX3, 6), rfl, by decide, tb_i 54 (by decide +kernel)⟩
theorem flRX3_21 : FL RX3 21 3 5 := ⟨(RX3, TX3, 6), rfl, by decide, tb_i 61 (by decide +kernel)⟩
theorem flRX3_31 : FL RX3 31 3 3 := ⟨(RX3, TX3, 6), rfl, by decide, tb_i 55 (by decide +kernel)⟩
theorem flRX3_34 : FL RX3 34 3 4 := ⟨(RX3, TX3, 6), rfl, by decide, tb_i 57 (by decide +kernel)⟩
theorem lkRX3_25 : Cond.methodLink RX3 25 arraycopyName ∈ lw_tbl := tb_i 688 (by decide +kernel)
theorem lkRX3_37 : Cond.methodLink RX3 37 yX3_drawAnew ∈ lw_tbl := tb_i 797 (by decide +kernel)
theorem lkRX3_40 : Cond.methodLink RX3 40 yX3_written ∈ lw_tbl := tb_i 1273 (by decide +kernel)
theorem dX3_take_0 : decode cX3_take 0 = .ok (.aload_n 1, 1) := by decide +kernel
theorem dX3_take_1 : decode cX3_take 1 = .ok (.getfield 9, 3) := by decide +kernel
theorem dX3_take_4 : decode cX3_take 4 = .ok (.iconst 0, 1) := by decide +kernel
theorem dX3_take_5 : decode cX3_take 5 = .ok (.aload_n 0, 1) := by decide +kernel
theorem dX3_take_6 : decode cX3_take 6 = .ok (.getfield 9, 3) := by decide +kernel
theorem dX3_take_9 : decode cX3_take 9 = .ok (.iconst 0, 1) := by decide +kernel
theorem dX3_take_10 : decode cX3_take 10 = .ok (.bipush 80, 2) := by decide +kernel
theorem dX3_take_12 : decode cX3_take 12 = .ok (.invokestatic 25, 3) := by decide +kernel
theorem dX3_take_15 : decode cX3_take 15 = .ok (.aload_n 1, 1) := by decide +kernel
theorem dX3_take_16 : decode cX3_take 16 = .ok (.getfield 15, 3) := by decide +kernel
theorem dX3_take_19 : decode cX3_take 19 = .ok (.iconst 0, 1) := by decide +kernel
theorem dX3_take_20 : decode cX3_take 20 = .ok (.aload_n 0, 1) := by decide +kernel
theorem dX3_take_21 : decode cX3_take 21 = .ok (.getfield 15, 3) := by decide +kernel
theorem dX3_take_24 : decode cX3_take 24 = .ok (.iconst 0, 1) := by decide +kernel
theorem dX3_take_25 : decode cX3_take 25 = .ok (.bipush 24, 2) := by decide +kernel
theorem dX3_take_27 : decode cX3_take 27 = .ok (.invokestatic 25, 3) := by decide +kernel
theorem dX3_take_30 : decode cX3_take 30 = .ok (.aload_n 1, 1) := by decide +kernel
theorem dX3_take_31 : decode cX3_take 31 = .ok (.getfield 18, 3) := by decide +kernel
theorem dX3_take_34 : decode cX3_take 34 = .ok (.iconst 0, 1) := by decide +kernel
theorem dX3_take_35 : decode cX3_take 35 = .ok (.aload_n 0, 1) := by decide +kernel
theorem dX3_take_36 : decode cX3_take 36 = .ok (.getfield 18, 3) := by decide +kernel
theorem dX3_take_39 : decode cX3_take 39 = .ok (.iconst 0, 1) := by decide +kernel
theorem dX3_take_40 : decode cX3_take 40 = .ok (.bipush 30, 2) := by decide +kernel
theorem dX3_take_42 : decode cX3_take 42 = .ok (.invokestatic 25, 3) := by decide +kernel
theorem dX3_take_45 : decode cX3_take 45 = .ok (.aload_n 0, 1) := by decide +kernel
theorem dX3_take_46 : decode cX3_take 46 = .ok (.aload_n 1, 1) := by decide +kernel
theorem dX3_take_47 : decode cX3_take 47 = .ok (.getfield 31, 3) := by decide +kernel
theorem dX3_take_50 : decode cX3_take 50 = .ok (.putfield 31, 3) := by decide +kernel
theorem dX3_take_53 : decode cX3_take 53 = .ok (.aload_n 0, 1) := by decide +kernel
theorem dX3_take_54 : decode cX3_take 54 = .ok (.aload_n 1, 1) := by decide +kernel
theorem dX3_take_55 : decode cX3_take 55 = .ok (.getfield 34, 3) := by decide +kernel
theorem dX3_take_58 : decode cX3_take 58 = .ok (.putfield 34, 3) := by decide +kernel
theorem dX3_take_61 : decode cX3_take 61 = .ok (.aload_n 0, 1) := by decide +kernel
theorem dX3_take_62 : decode cX3_take 62 = .ok (.aload_n 1, 1) := by decide +kernel
theorem dX3_take_63 : decode cX3_take 63 = .ok (.getfield 21, 3) := by decide +kernel
theorem dX3_take_66 : decode cX3_take 66 = .ok (.putfield 21, 3) := by decide +kernel
theorem dX3_take_69 : decode cX3_take 69 = .ok (.return_, 1) := by decide +kernel
theorem wi_RX3 : Cond.initialized RX3 ∈ lw_tbl := tb_i 4 (by decide +kernel)
theorem wn_RX3 : RX3 ≠ "java/lang/invoke/MethodHandle" ∧ RX3 ≠ "java/lang/invoke/VarHandle" := ⟨by decide +kernel, by decide +kernel⟩
theorem wp_RX3 : plainName RX3 = true := by decide +kernel
def m3_take : pMT := (yX3_take, cX3_take, 2, none)
theorem mo3_take : mOK m3_take 1 := ⟨tb_i 687 (by decide +kernel), wi_RX3, ⟨wn_RX3.1, wn_RX3.2, by decide +kernel⟩, by decide, plainFor_of_name wp_RX3⟩
theorem mv3_take : mV m3_take := ⟨tb_i 685 (by decide +kernel), tb_i 686 (by decide +kernel)⟩
def f3_take (I : (Nat → Nat → Int32)) (O : (Nat → Nat → Option Nat)) (a0 : Nat) (a1 : Nat) : Option ((Nat → Nat → Int32)) := bl (cpI I (rO O a1 0) (rO O a0 0) 0 0 80) fun I3 => bl (cpI I3 (rO O a1 1) (rO O a0 1) 0 0 24) fun I6 => bl (cpI I6 (rO O a1 2) (rO O a0 2) 0 0 30) fun I9 => bl (sI I9 a0 3 (I9 a1 3)) fun I10 => bl (sI I10 a0 4 (I10 a1 4)) fun I11 => bl (sI I11 a0 5 (I11 a1 5)) fun I12 => some (I12)
set_option maxHeartbeats 4000000 in
set_option maxRecDepth 20000 in
theorem o3_take {g : pG} {Qx : Option Value → pW → Prop} {Z : pZ} {I : (Nat → Nat → Int32)} {L : (Nat → Nat → Int64)} {O : (Nat → Nat → Option Nat)} {a0 : Nat} {a1 : Nat} {res : (Nat → Nat → Int32)} (d : Nat) (hW : WT Z O) (hZ0 : Z[a0]? = some (3, 6)) (hZ1 : Z[a1]? = some (3, 6)) (h : f3_take I O a0 a1 = some res) (hQ : Qx none (Z, res, L, O)) : Ok g (d + 2, RX3, cX3_take, 2, false, 0, 0, Z.length, pSl Z) Qx 0 [(0, .ref a0), (1, .ref a1)] [] (Z, I, L, O) := by
  unfold f3_take at h
  refine ok_aload_n dX3_take_0 1 rfl ?_
  have hT1 : Z[(rO O a1 0)]? = some (13, 80) := (wt_f (ci := 3) (k := 0) hW hZ1 rfl).2
  refine ok_getR (ci := 3) (k := 0) dX3_take_1 flRX3_9 rfl hW hZ1 (by decide) ?_
  refine ok_iconst (v := 0) dX3_take_4 (by decide) ?_
  refine ok_aload_n dX3_take_5 0 rfl ?_
  have hT2 : Z[(rO O a0 0)]? = some (13, 80) := (wt_f (ci := 3) (k := 0) hW hZ0 rfl).2
  refine ok_getR (ci := 3) (k := 0) dX3_take_6 flRX3_9 rfl hW hZ0 (by decide) ?_
  refine ok_iconst (v := 0) dX3_take_9 (by decide) ?_
  refine ok_bipush (v := 80) dX3_take_10 (by decide) ?_
  obtain ⟨I3, eI3, h⟩ := blE h
  refine ok_copy2 (N := 80) (S := 0) (T := 0) dX3_take_12 lkRX3_25 hT1 hT2 (by decide) (by decide) (by decide) (by decide) (by decide) (by decide) (by decide) (by decide) (Nat.le_of_ble_eq_true rfl) (by show 1 ≤ d + _; omega) eI3 ?_
  refine ok_aload_n dX3_take_15 1 rfl ?_
  have hT4 : Z[(rO O a1 1)]? = some (13, 24) := (wt_f (ci := 3) (k := 1) hW hZ1 rfl).2
  refine ok_getR (ci := 3) (k := 1) dX3_take_16 flRX3_15 rfl hW hZ1 (by decide) ?_
  refine ok_iconst (v := 0) dX3_take_19 (by decide) ?_
  refine ok_aload_n dX3_take_20 0 rfl ?_
  have hT5 : Z[(rO O a0 1)]? = some (13, 24) := (wt_f (ci := 3) (k := 1) hW hZ0 rfl).2
  refine ok_getR (ci := 3) (k := 1) dX3_take_21 flRX3_15 rfl hW hZ0 (by decide) ?_
  refine ok_iconst (v := 0) dX3_take_24 (by decide) ?_
  refine ok_bipush (v := 24) dX3_take_25 (by decide) ?_
  obtain ⟨I6, eI6, h⟩ := blE h
  refine ok_copy2 (N := 24) (S := 0) (T := 0) dX3_take_27 lkRX3_25 hT4 hT5 (by decide) (by decide) (by decide) (by decide) (by decide) (by decide) (by decide) (by decide) (Nat.le_of_ble_eq_true rfl) (by show 1 ≤ d + _; omega) eI6 ?_
  refine ok_aload_n dX3_take_30 1 rfl ?_
  have hT7 : Z[(rO O a1 2)]? = some (13, 30) := (wt_f (ci := 3) (k := 2) hW hZ1 rfl).2
  refine ok_getR (ci := 3) (k := 2) dX3_take_31 flRX3_18 rfl hW hZ1 (by decide) ?_
  refine ok_iconst (v := 0) dX3_take_34 (by decide) ?_
  refine ok_aload_n dX3_take_35 0 rfl ?_
  have hT8 : Z[(rO O a0 2)]? = some (13, 30) := (wt_f (ci := 3) (k := 2) hW hZ0 rfl).2
  refine ok_getR (ci := 3) (k := 2) dX3_take_36 flRX3_18 rfl hW hZ0 (by decide) ?_
  refine ok_iconst (v := 0) dX3_take_39 (by decide) ?_
  refine ok_bipush (v := 30) dX3_take_40 (by decide) ?_
  obtain ⟨I9, eI9, h⟩ := blE h
  refine ok_copy2 (N := 30) (S := 0) (T := 0) dX3_take_42 lkRX3_25 hT7 hT8 (by decide) (by decide) (by decide) (by decide) (by decide) (by decide) (by decide) (by decide) (Nat.le_of_ble_eq_true rfl) (by show 1 ≤ d + _; omega) eI9 ?_
  refine ok_aload_n dX3_take_45 0 rfl ?_
  refine ok_aload_n dX3_take_46 1 rfl ?_
  refine ok_getI (ci := 3) (k := 3) dX3_take_47 flRX3_31 rfl hZ1 (by decide) ?_
  obtain ⟨I10, eI10, h⟩ := blE h
  refine ok_putI2 (ci := 3) (k := 3) dX3_take_50 flRX3_31 rfl (Or.inl rfl) hZ0 (by decide) eI10 ?_
  refine ok_aload_n dX3_take_53 0 rfl ?_
  refine ok_aload_n dX3_take_54 1 rfl ?_
  refine ok_getI (ci := 3) (k := 4) dX3_take_55 flRX3_34 rfl hZ1 (by decide) ?_
  obtain ⟨I11, eI11, h⟩ := blE h
  refine ok_putI2 (ci := 3) (k := 4) dX3_take_58 flRX3_34 rfl (Or.inl rfl) hZ0 (by decide) eI11 ?_
  refine ok_aload_n dX3_take_61 0 rfl ?_
  refine ok_aload_n dX3_take_62 1 rfl ?_
  refine ok_getI (ci := 3) (k := 5) dX3_take_63 flRX3_21 rfl hZ1 (by decide) ?_
  obtain ⟨I12, eI12, h⟩ := blE h
  refine ok_putI2 (ci := 3) (k := 5) dX3_take_66 flRX3_21 rfl (Or.inl rfl) hZ0 (by decide) eI12 ?_
  cases h
  exact ok_vret dX3_take_69 hQ
theorem k3_take {g : pG} {Q : Option Value → pW → Prop} {Z : pZ} {I : (Nat → Nat → Int32)} {L : (Nat → Nat → Int64)} {O : (Nat → Nat → Option Nat)} {a0 : Nat} {a1 : Nat} {res : (Nat → Nat → Int32)} (d : Nat) (hW : WT Z O) (hZ0 : Z[a0]? = some (3, 6)) (hZ1 : Z[a1]? = some (3, 6)) (h : f3_take I O a0 a1 = some res) (hQ : Q none (Z, res, L, O)) : CT g (d + 2) m3_take 0 0 [.ref a0, .ref a1] (Z, I, L, O) Q :=
  ct_of_ok (mt := m3_take) (ini := false) mo3_take.2.2.2.2 (fun h => by cases h) (Nat.le_of_ble_eq_true rfl) (o3_take d hW hZ0 hZ1 h ⟨trivial, hQ, rfl, rfl⟩)
theorem dX3_drawAnew_0 : decode cX3_drawAnew 0 = .ok (.aload_n 0, 1) := by decide +kernel
theorem dX3_drawAnew_1 : decode cX3_drawAnew 1 = .ok (.aload_n 0, 1) := by decide +kernel
theorem dX3_drawAnew_2 : decode cX3_drawAnew 2 = .ok (.getfield 21, 3) := by decide +kernel
theorem dX3_drawAnew_5 : decode cX3_drawAnew 5 = .ok (.sipush 509, 3) := by decide +kernel
theorem dX3_drawAnew_8 : decode cX3_drawAnew 8 = .ok (.imul, 1) := by decide +kernel
theorem dX3_drawAnew_9 : decode cX3_drawAnew 9 = .ok (.sipush 397, 3) := by decide +kernel
theorem dX3_drawAnew_12 : decode cX3_drawAnew 12 = .ok (.iadd, 1) := by decide +kernel
theorem dX3_drawAnew_13 : decode cX3_drawAnew 13 = .ok (.sipush 30697, 3) := by decide +kernel
theorem dX3_drawAnew_16 : decode cX3_drawAnew 16 = .ok (.irem, 1) := by decide +kernel
theorem dX3_drawAnew_17 : decode cX3_drawAnew 17 = .ok (.putfield 21, 3) := by decide +kernel
theorem dX3_drawAnew_20 : decode cX3_drawAnew 20 = .ok (.return_, 1) := by decide +kernel
def m3_drawAnew : pMT := (yX3_drawAnew, cX3_drawAnew, 1, none)
theorem mo3_drawAnew : mOK m3_drawAnew 0 := ⟨tb_i 800 (by decide +kernel), wi_RX3, ⟨wn_RX3.1, wn_RX3.2, by decide +kernel⟩, by decide, plainFor_of_name wp_RX3⟩
theorem mv3_drawAnew : mV m3_drawAnew := ⟨tb_i 798 (by decide +kernel), tb_i 799 (by decide +kernel)⟩
def f3_drawAnew (I : (Nat → Nat → Int32)) (a0 : Nat) : Option ((Nat → Nat → Int32)) := bl (sI I a0 5 ((((I a0 5) * 509) + 397) - (((I a0 5) * 509) + 397) / 30697 * 30697)) fun I1 => some (I1)
set_option maxHeartbeats 4000000 in
set_option maxRecDepth 20000 in
theorem o3_drawAnew {g : pG} {Qx : Option Value → pW → Prop} {Z : pZ} {I : (Nat → Nat → Int32)} {L : (Nat → Nat → Int64)} {O : (Nat → Nat → Option Nat)} {a0 : Nat} {res : (Nat → Nat → Int32)} (d : Nat) (hW : WT Z O) (hZ0 : Z[a0]? = some (3, 6)) (h : f3_drawAnew I a0 = some res) (hQ : Qx none (Z, res, L, O)) : Ok g (d + 2, RX3, cX3_drawAnew, 1, false, 0, 0, Z.length, pSl Z) Qx 0 [(0, .ref a0)] [] (Z, I, L, O) := by
  unfold f3_drawAnew at h
  refine ok_aload_n dX3_drawAnew_0 0 rfl ?_
  refine ok_aload_n dX3_drawAnew_1 0 rfl ?_
  refine ok_getI (ci := 3) (k := 5) dX3_drawAnew_2 flRX3_21 rfl hZ0 (by decide) ?_
  refine ok_sipush (v := 509) dX3_drawAnew_5 (by decide) ?_
  refine ok_imul dX3_drawAnew_8 ?_
  refine ok_sipush (v := 397) dX3_drawAnew_9 (by decide) ?_
  refine ok_iadd dX3_drawAnew_12 ?_
  refine ok_sipush (v := 30697) dX3_drawAnew_13 (by decide) ?_
  refine ok_irem dX3_drawAnew_16 (by decide) ?_
  obtain ⟨I1, eI1, h⟩ := blE h
  refine ok_putI2 (ci := 3) (k := 5) dX3_drawAnew_17 flRX3_21 rfl (Or.inl rfl) hZ0 (by decide) eI1 ?_
  cases h
  exact ok_vret dX3_drawAnew_20 hQ
theorem k3_drawAnew {g : pG} {Q : Option Value → pW → Prop} {Z : pZ} {I : (Nat → Nat → Int32)} {L : (Nat → Nat → Int64)} {O : (Nat → Nat → Option Nat)} {a0 : Nat} {res : (Nat → Nat → Int32)} (d : Nat) (hW : WT Z O) (hZ0 : Z[a0]? = some (3, 6)) (h : f3_drawAnew I a0 = some res) (hQ : Q none (Z, res, L, O)) : CT g (d + 2) m3_drawAnew 0 0 [.ref a0] (Z, I, L, O) Q :=
  ct_of_ok (mt := m3_drawAnew) (ini := false) mo3_drawAnew.2.2.2.2 (fun h => by cases h) (Nat.le_of_ble_eq_true rfl) (o3_drawAnew d hW hZ0 h ⟨trivial, hQ, rfl, rfl⟩)
theorem dX3_draw_0 : decode cX3_draw 0 = .ok (.iload_n 1, 1) := by decide +kernel
theorem dX3_draw_1 : decode cX3_draw 1 = .ok (.ifCond .le 12, 3) := by decide +kernel
theorem dX3_draw_4 : decode cX3_draw 4 = .ok (.aload_n 0, 1) := by decide +kernel
theorem dX3_draw_5 : decode cX3_draw 5 = .ok (.getfield 21, 3) := by decide +kernel
theorem dX3_draw_8 : decode cX3_draw 8 = .ok (.iload_n 1, 1) := by decide +kernel
theorem dX3_draw_9 : decode cX3_draw 9 = .ok (.irem, 1) := by decide +kernel
theorem dX3_draw_10 : decode cX3_draw 10 = .ok (.goto 4, 3) := by decide +kernel
theorem dX3_draw_13 : decode cX3_draw 13 = .ok (.iconst 0, 1) := by decide +kernel
theorem dX3_draw_14 : decode cX3_draw 14 = .ok (.istore_n 2, 1) := by decide +kernel
theorem dX3_draw_15 : decode cX3_draw 15 = .ok (.aload_n 0, 1) := by decide +kernel
theorem dX3_draw_16 : decode cX3_draw 16 = .ok (.invokevirtual 37, 3) := by decide +kernel
theorem dX3_draw_19 : decode cX3_draw 19 = .ok (.iload_n 2, 1) := by decide +kernel
theorem dX3_draw_20 : decode cX3_draw 20 = .ok (.ireturn, 1) := by decide +kernel
def m3_draw : pMT := (yX3_draw, cX3_draw, 3, some .int)
theorem mo3_draw : mOK m3_draw 1 := ⟨tb_i 796 (by decide +kernel), wi_RX3, ⟨wn_RX3.1, wn_RX3.2, by decide +kernel⟩, by decide, plainFor_of_name wp_RX3⟩
theorem mv3_draw : mV m3_draw := ⟨tb_i 794 (by decide +kernel), tb_i 795 (by decide +kernel)⟩
def f3_draw (I : (Nat → Nat → Int32)) (a0 : Nat) (x1 : Int32) : Option (Int32 × (Nat → Nat → Int32)) := (if x1 ≤ 0 then (f3_drawAnew I a0).bind fun r2 => some ((0 : Int32), r2) else if x1 = 0 then none else bl (((I a0 5) - (I a0 5) / x1 * x1) : Int32) fun z5 => (f3_drawAnew I a0).bind fun r6 => some (z5, r6))
set_option maxHeartbeats 4000000 in
set_option maxRecDepth 20000 in
theorem o3_draw {g : pG} {Qx : Option Value → pW → Prop} {Z : pZ} {I : (Nat → Nat → Int32)} {L : (Nat → Nat → Int64)} {O : (Nat → Nat → Option Nat)} {a0 : Nat} {x1 : Int32} {res : Int32 × (Nat → Nat → Int32)} (d : Nat) (hW : WT Z O) (hZ0 : Z[a0]? = some (3, 6)) (h : f3_draw I a0 x1 = some res) (hQ : Qx (some (.int res.1)) (Z, res.2, L, O)) : Ok g (d + 3, RX3, cX3_draw, 3, false, 0, 0, Z.length, pSl Z) Qx 0 [(0, .ref a0), (1, .int x1)] [] (Z, I, L, O) := by
  unfold f3_draw at h
  refine ok_iload_n dX3_draw_0 1 rfl ?_
  refine ok_if_le (t := 13) dX3_draw_1 (by decide) (fun hc1 => ?_) (fun hc1 => ?_)
  · have h := (if_pos hc1).symm.trans h
    refine ok_iconst (v := 0) dX3_draw_13 (by decide) ?_
    refine ok_istore_n (l' := [(2, .int 0), (0, .ref a0), (1, .int x1)]) dX3_draw_14 rfl (Nat.le_of_ble_eq_true rfl) rfl ?_
    refine ok_aload_n dX3_draw_15 1 rfl ?_
    obtain ⟨r2, hr3, h⟩ := bd h
    refine ok_callV (d := ((d + 0) + 2)) (mt := m3_drawAnew) (mc := 0) (ms := 0) (As := []) (r := []) dX3_draw_16 mo3_drawAnew mv3_drawAnew lkRX3_37 rfl hZ0 (q := (RX3, TX3, 6)) rfl rfl rfl (Nat.le_of_ble_eq_true rfl) (by show _ + 1 ≤ d + _; omega) (Nat.le_refl _) (Nat.le_refl _) (pRt_mono ?_)
    refine k3_drawAnew (d + 0) hW hZ0 hr3 ?_
    intro _
    show Ok g _ Qx 19 [(2, .int 0), (0, .ref a0), (1, .int x1)] [] (Z, r2, L, O)
    refine ok_iload_n dX3_draw_19 0 rfl ?_
    cases h
    exact ok_iret dX3_draw_20 hQ
  · have h := (if_neg hc1).symm.trans h
    refine ok_aload_n dX3_draw_4 0 rfl ?_
    refine ok_getI (ci := 3) (k := 5) dX3_draw_5 flRX3_21 rfl hZ0 (by decide) ?_
    refine ok_iload_n dX3_draw_8 1 rfl ?_
    obtain ⟨hg4, h⟩ := gd h
    refine ok_irem dX3_draw_9 hg4 ?_
    refine ok_goto (t := 14) dX3_draw_10 (by decide) ?_
    obtain ⟨z5, ez5, h⟩ := blE h
    refine ok_nm ez5 ?_
    refine ok_istore_n (l' := [(2, .int z5), (0, .ref a0), (1, .int x1)]) dX3_draw_14 rfl (Nat.le_of_ble_eq_true rfl) rfl ?_
    refine ok_aload_n dX3_draw_15 1 rfl ?_
    obtain ⟨r6, hr7, h⟩ := bd h
    refine ok_callV (d := ((d + 0) + 2)) (mt := m3_drawAnew) (mc := 0) (ms := 0) (As := []) (r := []) dX3_draw_16 mo3_drawAnew mv3_drawAnew lkRX3_37 rfl hZ0 (q := (RX3, TX3, 6)) rfl rfl rfl (Nat.le_of_ble_eq_true rfl) (by show _ + 1 ≤ d + _; omega) (Nat.le_refl _) (Nat.le_refl _) (pRt_mono ?_)
    refine k3_drawAnew (d + 0) hW hZ0 hr7 ?_
    intro _
    show Ok g _ Qx 19 [(2, .int z5), (0, .ref a0), (1, .int x1)] [] (Z, r6, L, O)
    refine ok_iload_n dX3_draw_19 0 rfl ?_
    cases h
    exact ok_iret dX3_draw_20 hQ
theorem k3_draw {g : pG} {Q : Option Value → pW → Prop} {Z : pZ} {I : (Nat → Nat → Int32)} {L : (Nat → Nat → Int64)} {O : (Nat → Nat → Option Nat)} {a0 : Nat} {x1 : Int32} {res : Int32 × (Nat → Nat → Int32)} (d : Nat) (hW : WT Z O) (hZ0 : Z[a0]? = some (3, 6)) (h : f3_draw I a0 x1 = some res) (hQ : Q (some (.int res.1)) (Z, res.2, L, O)) : CT g (d + 3) m3_draw 0 0 [.ref a0, .int x1] (Z, I, L, O) Q :=
  ct_of_ok (mt := m3_draw) (ini := false) mo3_draw.2.2.2.2 (fun h => by cases h) (Nat.le_of_ble_eq_true rfl) (o3_draw d hW hZ0 h ⟨trivial, hQ, rfl, rfl⟩)
theorem dX3_write_0 : decode cX3_write 0 = .ok (.aload_n 0, 1) := by decide +kernel
theorem dX3_write_1 : decode cX3_write 1 = .ok (.getfield 31, 3) := by decide +kernel
theorem dX3_write_4 : decode cX3_write 4 = .ok (.bipush 30, 2) := by decide +kernel
theorem dX3_write_6 : decode cX3_write 6 = .ok (.if_icmp .lt 24, 3) := by decide +kernel
theorem dX3_write_9 : decode cX3_write 9 = .ok (.aload_n 0, 1) := by decide +kernel
theorem dX3_write_10 : decode cX3_write 10 = .ok (.getfield 18, 3) := by decide +kernel
theorem dX3_write_13 : decode cX3_write 13 = .ok (.iconst 1, 1) := by decide +kernel
theorem dX3_write_14 : decode cX3_write 14 = .ok (.aload_n 0, 1) := by decide +kernel
theorem dX3_write_15 : decode cX3_write 15 = .ok (.getfield 18, 3) := by decide +kernel
theorem dX3_write_18 : decode cX3_write 18 = .ok (.iconst 0, 1) := by decide +kernel
theorem dX3_write_19 : decode cX3_write 19 = .ok (.bipush 29, 2) := by decide +kernel
theorem dX3_write_21 : decode cX3_write 21 = .ok (.invokestatic 25, 3) := by decide +kernel
theorem dX3_write_24 : decode cX3_write 24 = .ok (.aload_n 0, 1) := by decide +kernel
theorem dX3_write_25 : decode cX3_write 25 = .ok (.bipush 29, 2) := by decide +kernel
theorem dX3_write_27 : decode cX3_write 27 = .ok (.putfield 31, 3) := by decide +kernel
theorem dX3_write_30 : decode cX3_write 30 = .ok (.aload_n 0, 1) := by decide +kernel
theorem dX3_write_31 : decode cX3_write 31 = .ok (.getfield 18, 3) := by decide +kernel
theorem dX3_write_34 : decode cX3_write 34 = .ok (.aload_n 0, 1) := by decide +kernel
theorem dX3_write_35 : decode cX3_write 35 = .ok (.getfield 31, 3) := by decide +kernel
theorem dX3_write_38 : decode cX3_write 38 = .ok (.aload_n 0, 1) := by decide +kernel
theorem dX3_write_39 : decode cX3_write 39 = .ok (.getfield 34, 3) := by decide +kernel
theorem dX3_write_42 : decode cX3_write 42 = .ok (.iconst 5, 1) := by decide +kernel
theorem dX3_write_43 : decode cX3_write 43 = .ok (.imul, 1) := by decide +kernel
theorem dX3_write_44 : decode cX3_write 44 = .ok (.iload_n 1, 1) := by decide +kernel
theorem dX3_write_45 : decode cX3_write 45 = .ok (.iadd, 1) := by decide +kernel
theorem dX3_write_46 : decode cX3_write 46 = .ok (.iconst 4, 1) := by decide +kernel
theorem dX3_write_47 : decode cX3_write 47 = .ok (.imul, 1) := by decide +kernel
theorem dX3_write_48 : decode cX3_write 48 = .ok (.iload_n 2, 1) := by decide +kernel
theorem dX3_write_49 : decode cX3_write 49 = .ok (.iadd, 1) := by decide +kernel
theorem dX3_write_50 : decode cX3_write 50 = .ok (.bipush 17, 2) := by decide +kernel
theorem dX3_write_52 : decode cX3_write 52 = .ok (.imul, 1) := by decide +kernel
theorem dX3_write_53 : decode cX3_write 53 = .ok (.iload_n 3, 1) := by decide +kernel
theorem dX3_write_54 : decode cX3_write 54 = .ok (.iadd, 1) := by decide +kernel
theorem dX3_write_55 : decode cX3_write 55 = .ok (.iastore, 1) := by decide +kernel
theorem dX3_write_56 : decode cX3_write 56 = .ok (.aload_n 0, 1) := by decide +kernel
theorem dX3_write_57 : decode cX3_write 57 = .ok (.dup, 1) := by decide +kernel
theorem dX3_write_58 : decode cX3_write 58 = .ok (.getfield 31, 3) := by decide +kernel
theorem dX3_write_61 : decode cX3_write 61 = .ok (.iconst 1, 1) := by decide +kernel
theorem dX3_write_62 : decode cX3_write 62 = .ok (.iadd, 1) := by decide +kernel
theorem dX3_write_63 : decode cX3_write 63 = .ok (.putfield 31, 3) := by decide +kernel
theorem dX3_write_66 : decode cX3_write 66 = .ok (.return_, 1) := by decide +kernel
def m3_write : pMT := (yX3_write, cX3_write, 4, none)
theorem mo3_write : mOK m3_write 3 := ⟨tb_i 819 (by decide +kernel), wi_RX3, ⟨wn_RX3.1, wn_RX3.2, by decide +kernel⟩, by decide, plainFor_of_name wp_RX3⟩
theorem mv3_write : mV m3_write := ⟨tb_i 817 (by decide +kernel), tb_i 818 (by decide +kernel)⟩
def f3_write_c30 (O : (Nat → Nat → Option Nat)) (I : (Nat → Nat → Int32)) (b0 : Nat) (y1 : Int32) (y2 : Int32) (y3 : Int32) : Option ((Nat → Nat → Int32)) := (if (I b0 3) < 0 ∨ 30 ≤ (I b0 3).toNatClampNeg then none else bl (sI I (rO O b0 2) (I b0 3).toNatClampNeg (((((((I b0 4) * 5) + y1) * 4) + y2) * 17) + y3)) fun I3 => bl (sI I3 b0 3 ((I3 b0 3) + 1)) fun I4 => some (I4))
set_option maxHeartbeats 4000000 in
set_option maxRecDepth 20000 in
theorem o3_write_c30 {g : pG} {Qx : Option Value → pW → Prop} {Z : pZ} {L : (Nat → Nat → Int64)} {O : (Nat → Nat → Option Nat)} {res : (Nat → Nat → Int32)} (d : Nat) (hW : WT Z O) (hQ : Qx none (Z, res, L, O)) (I : (Nat → Nat → Int32)) (b0 : Nat) (y1 : Int32) (y2 : Int32) (y3 : Int32) (hZ_b0 : Z[b0]? = some (3, 6)) (h : f3_write_c30 O I b0 y1 y2 y3 = some res) : Ok g (d + 2, RX3, cX3_write, 4, false, 0, 0, Z.length, pSl Z) Qx 30 [(0, .ref b0), (1, .int y1), (2, .int y2), (3, .int y3)] [] (Z, I, L, O) := by
  unfold f3_write_c30 at h
  refine ok_aload_n dX3_write_30 0 rfl ?_
  have hT1 : Z[(rO O b0 2)]? = some (13, 30) := (wt_f (ci := 3) (k := 2) hW hZ_b0 rfl).2
  refine ok_getR (ci := 3) (k := 2) dX3_write_31 flRX3_18 rfl hW hZ_b0 (by decide) ?_
  refine ok_aload_n dX3_write_34 0 rfl ?_
  refine ok_getI (ci := 3) (k := 3) dX3_write_35 flRX3_31 rfl hZ_b0 (by decide) ?_
  refine ok_aload_n dX3_write_38 0 rfl ?_
  refine ok_getI (ci := 3) (k := 4) dX3_write_39 flRX3_34 rfl hZ_b0 (by decide) ?_
  refine ok_iconst (v := 5) dX3_write_42 (by decide) ?_
  refine ok_imul dX3_write_43 ?_
  refine ok_iload_n dX3_write_44 1 rfl ?_
  refine ok_iadd dX3_write_45 ?_
  refine ok_iconst (v := 4) dX3_write_46 (by decide) ?_
  refine ok_imul dX3_write_47 ?_
  refine ok_iload_n dX3_write_48 2 rfl ?_
  refine ok_iadd dX3_write_49 ?_
  refine ok_bipush (v := 17) dX3_write_50 (by decide) ?_
  refine ok_imul dX3_write_52 ?_
  refine ok_iload_n dX3_write_53 3 rfl ?_
  refine ok_iadd dX3_write_54 ?_
  obtain ⟨hg2, h⟩ := gd h
  obtain ⟨I3, eI3, h⟩ := blE h
  refine ok_iast3 dX3_write_55 hT1 hg2 rfl eI3 ?_
  refine ok_aload_n dX3_write_56 0 rfl ?_
  refine ok_dup dX3_write_57 rfl ?_
  refine ok_getI (ci := 3) (k := 3) dX3_write_58 flRX3_31 rfl hZ_b0 (by decide) ?_
  refine ok_iconst (v := 1) dX3_write_61 (by decide) ?_
  refine ok_iadd dX3_write_62 ?_
  obtain ⟨I4, eI4, h⟩ := blE h
  refine ok_putI2 (ci := 3) (k := 3) dX3_write_63 flRX3_31 rfl (Or.inl rfl) hZ_b0 (by decide) eI4 ?_
  cases h
  exact ok_vret dX3_write_66 hQ
def f3_write (I : (Nat → Nat → Int32)) (O : (Nat → Nat → Option Nat)) (a0 : Nat) (x1 : Int32) (x2 : Int32) (x3 : Int32) : Option ((Nat → Nat → Int32)) := (if (I a0 3) < (30 : Int32) then f3_write_c30 O I a0 x1 x2 x3 else bl (cpI I (rO O a0 2) (rO O a0 2) 1 0 29) fun I3 => bl (sI I3 a0 3 (29 : Int32)) fun I4 => f3_write_c30 O I4 a0 x1 x2 x3)
set_option maxHeartbeats 4000000 in
set_option maxRecDepth 20000 in
theorem o3_write {g : pG} {Qx : Option Value → pW → Prop} {Z : pZ} {I : (Nat → Nat → Int32)} {L : (Nat → Nat → Int64)} {O : (Nat → Nat → Option Nat)} {a0 : Nat} {x1 : Int32} {x2 : Int32} {x3 : Int32} {res : (Nat → Nat → Int32)} (d : Nat) (hW : WT Z O) (hZ0 : Z[a0]? = some (3, 6)) (h : f3_write I O a0 x1 x2 x3 = some res) (hQ : Qx none (Z, res, L, O)) : Ok g (d + 2, RX3, cX3_write, 4, false, 0, 0, Z.length, pSl Z) Qx 0 [(0, .ref a0), (1, .int x1), (2, .int x2), (3, .int x3)] [] (Z, I, L, O) := by
  unfold f3_write at h
  refine ok_aload_n dX3_write_0 0 rfl ?_
  refine ok_getI (ci := 3) (k := 3) dX3_write_1 flRX3_31 rfl hZ0 (by decide) ?_
  refine ok_bipush (v := 30) dX3_write_4 (by decide) ?_
  refine ok_icmp_lt (t := 30) dX3_write_6 (by decide) (fun hc1 => ?_) (fun hc1 => ?_)
  · have h := (if_pos hc1).symm.trans h
    refine ok_sub [0, 1, 2, 3] rfl ?_
    exact o3_write_c30 d hW hQ  I a0 x1 x2 x3 hZ0 h
  · have h := (if_neg hc1).symm.trans h
    refine ok_aload_n dX3_write_9 0 rfl ?_
    have hT2 : Z[(rO O a0 2)]? = some (13, 30) := (wt_f (ci := 3) (k := 2) hW hZ0 rfl).2
    refine ok_getR (ci := 3) (k := 2) dX3_write_10 flRX3_18 rfl hW hZ0 (by decide) ?_
    refine ok_iconst (v := 1) dX3_write_13 (by decide) ?_
    refine ok_aload_n dX3_write_14 0 rfl ?_
    refine ok_getR (ci := 3) (k := 2) dX3_write_15 flRX3_18 rfl hW hZ0 (by decide) ?_
    refine ok_iconst (v := 0) dX3_write_18 (by decide) ?_
    refine ok_bipush (v := 29) dX3_write_19 (by decide) ?_
    obtain ⟨I3, eI3, h⟩ := blE h
    refine ok_copy2 (N := 29) (S := 1) (T := 0) dX3_write_21 lkRX3_25 hT2 hT2 (by decide) (by decide) (by decide) (by decide) (by decide) (by decide) (by decide) (by decide) (Nat.le_of_ble_eq_true rfl) (by show 1 ≤ d + _; omega) eI3 ?_
    refine ok_aload_n dX3_write_24 0 rfl ?_
    refine ok_bipush (v := 29) dX3_write_25 (by decide) ?_
    obtain ⟨I4, eI4, h⟩ := blE h
    refine ok_putI2 (ci := 3) (k := 3) dX3_write_27 flRX3_31 rfl (Or.inl rfl) hZ0 (by decide) eI4 ?_
    refine ok_sub [0, 1, 2, 3] rfl ?_
    exact o3_write_c30 d hW hQ  I4 a0 x1 x2 x3 hZ0 h
theorem k3_write {g : pG} {Q : Option Value → pW → Prop} {Z : pZ} {I : (Nat → Nat → Int32)} {L : (Nat → Nat → Int64)} {O : (Nat → Nat → Option Nat)} {a0 : Nat} {x1 : Int32} {x2 : Int32} {x3 : Int32} {res : (Nat → Nat → Int32)} (d : Nat) (hW : WT Z O) (hZ0 : Z[a0]? = some (3, 6)) (h : f3_write I O a0 x1 x2 x3 = some res) (hQ : Q none (Z, res, L, O)) : CT g (d + 2) m3_write 0 0 [.ref a0, .int x1, .int x2, .int x3] (Z, I, L, O) Q :=
  ct_of_ok (mt := m3_write) (ini := false) mo3_write.2.2.2.2 (fun h => by cases h) (Nat.le_of_ble_eq_true rfl) (o3_write d hW hZ0 h ⟨trivial, hQ, rfl, rfl⟩)
theorem dX3_written_0 : decode cX3_written 0 = .ok (.iload_n 1, 1) := by decide +kernel
theorem dX3_written_1 : decode cX3_written 1 = .ok (.ifCond .lt 17, 3) := by decide +kernel
theorem dX3_written_4 : decode cX3_written 4 = .ok (.iload_n 1, 1) := by decide +kernel
theorem dX3_written_5 : decode cX3_written 5 = .ok (.aload_n 0, 1) := by decide +kernel
theorem dX3_written_6 : decode cX3_written 6 = .ok (.getfield 31, 3) := by decide +kernel
theorem dX3_written_9 : decode cX3_written 9 = .ok (.if_icmp .ge 9, 3) := by decide +kernel
theorem dX3_written_12 : decode cX3_written 12 = .ok (.iload_n 1, 1) := by decide +kernel
theorem dX3_written_13 : decode cX3_written 13 = .ok (.bipush 30, 2) := by decide +kernel
theorem dX3_written_15 : decode cX3_written 15 = .ok (.if_icmp .lt 6, 3) := by decide +kernel
theorem dX3_written_18 : decode cX3_written 18 = .ok (.bipush (-2), 2) := by decide +kernel
theorem dX3_written_20 : decode cX3_written 20 = .ok (.ireturn, 1) := by decide +kernel
theorem dX3_written_21 : decode cX3_written 21 = .ok (.aload_n 0, 1) := by decide +kernel
theorem dX3_written_22 : decode cX3_written 22 = .ok (.getfield 18, 3) := by decide +kernel
theorem dX3_written_25 : decode cX3_written 25 = .ok (.iload_n 1, 1) := by decide +kernel
theorem dX3_written_26 : decode cX3_written 26 = .ok (.iaload, 1) := by decide +kernel
theorem dX3_written_27 : decode cX3_written 27 = .ok (.istore_n 3, 1) := by decide +kernel
theorem dX3_written_28 : decode cX3_written 28 = .ok (.iload_n 2, 1) := by decide +kernel
theorem dX3_written_29 : decode cX3_written 29 = .ok (.tableswitch 61 0 3 #[31, 40, 49, 56], 31) := by decide +kernel
theorem dX3_written_60 : decode cX3_written 60 = .ok (.iload_n 3, 1) := by decide +kernel
theorem dX3_written_61 : decode cX3_written 61 = .ok (.bipush 17, 2) := by decide +kernel
theorem dX3_written_63 : decode cX3_written 63 = .ok (.idiv, 1) := by decide +kernel
theorem dX3_written_64 : decode cX3_written 64 = .ok (.iconst 4, 1) := by decide +kernel
theorem dX3_written_65 : decode cX3_written 65 = .ok (.idiv, 1) := by decide +kernel
theorem dX3_written_66 : decode cX3_written 66 = .ok (.iconst 5, 1) := by decide +kernel
theorem dX3_written_67 : decode cX3_written 67 = .ok (.idiv, 1) := by decide +kernel
theorem dX3_written_68 : decode cX3_written 68 = .ok (.ireturn, 1) := by decide +kernel
theorem dX3_written_69 : decode cX3_written 69 = .ok (.iload_n 3, 1) := by decide +kernel
theorem dX3_written_70 : decode cX3_written 70 = .ok (.bipush 17, 2) := by decide +kernel
theorem dX3_written_72 : decode cX3_written 72 = .ok (.idiv, 1) := by decide +kernel
theorem dX3_written_73 : decode cX3_written 73 = .ok (.iconst 4, 1) := by decide +kernel
theorem dX3_written_74 : decode cX3_written 74 = .ok (.idiv, 1) := by decide +kernel
theorem dX3_written_75 : decode cX3_written 75 = .ok (.iconst 5, 1) := by decide +kernel
theorem dX3_written_76 : decode cX3_written 76 = .ok (.irem, 1) := by decide +kernel
theorem dX3_written_77 : decode cX3_written 77 = .ok (.ireturn, 1) := by decide +kernel
theorem dX3_written_78 : decode cX3_written 78 = .ok (.iload_n 3, 1) := by decide +kernel
theorem dX3_written_79 : decode cX3_written 79 = .ok (.bipush 17, 2) := by decide +kernel
theorem dX3_written_81 : decode cX3_written 81 = .ok (.idiv, 1) := by decide +kernel
theorem dX3_written_82 : decode cX3_written 82 = .ok (.iconst 4, 1) := by decide +kernel
theorem dX3_written_83 : decode cX3_written 83 = .ok (.irem, 1) := by decide +kernel
theorem dX3_written_84 : decode cX3_written 84 = .ok (.ireturn, 1) := by decide +kernel
theorem dX3_written_85 : decode cX3_written 85 = .ok (.iload_n 3, 1) := by decide +kernel
theorem dX3_written_86 : decode cX3_written 86 = .ok (.bipush 17, 2) := by decide +kernel
theorem dX3_written_88 : decode cX3_written 88 = .ok (.irem, 1) := by decide +kernel
theorem dX3_written_89 : decode cX3_written 89 = .ok (.ireturn, 1) := by decide +kernel
theorem dX3_written_90 : decode cX3_written 90 = .ok (.bipush (-2), 2) := by decide +kernel
theorem dX3_written_92 : decode cX3_written 92 = .ok (.ireturn, 1) := by decide +kernel
def m3_written : pMT := (yX3_written, cX3_written, 4, some .int)
theorem mo3_written : mOK m3_written 2 := ⟨tb_i 980 (by decide +kernel), wi_RX3, ⟨wn_RX3.1, wn_RX3.2, by decide +kernel⟩, by decide, plainFor_of_name wp_RX3⟩
theorem mv3_written : mV m3_written := ⟨tb_i 978 (by decide +kernel), tb_i 979 (by decide +kernel)⟩
def f3_written (I : (Nat → Nat → Int32)) (O : (Nat → Nat → Option Nat)) (a0 : Nat) (x1 : Int32) (x2 : Int32) : Option (Int32) := (if x1 < 0 then some (((-2) : Int32)) else (if (I a0 3) ≤ x1 then some (((-2) : Int32)) else (if x1 < (30 : Int32) then (if x1 < 0 ∨ 30 ≤ x1.toNatClampNeg then none else bl ((I (rO O a0 2) x1.toNatClampNeg) : Int32) fun z6 => (if x2 = 0 then some ((((z6 / 17) / 4) / 5)) else (if x2 = 1 then some ((((z6 / 17) / 4) - ((z6 / 17) / 4) / 5 * 5)) else (if x2 = 2 then some (((z6 / 17) - (z6 / 17) / 4 * 4)) else (if x2 = 3 then some ((z6 - z6 / 17 * 17)) else some (((-2) : Int32))))))) else some (((-2) : Int32)))))
set_option maxHeartbeats 4000000 in
set_option maxRecDepth 20000 in
theorem o3_written {g : pG} {Qx : Option Value → pW → Prop} {Z : pZ} {I : (Nat → Nat → Int32)} {L : (Nat → Nat → Int64)} {O : (Nat → Nat → Option Nat)} {a0 : Nat} {x1 : Int32} {x2 : Int32} {res : Int32} (d : Nat) (hW : WT Z O) (hZ0 : Z[a0]? = some (3, 6)) (h : f3_written I O a0 x1 x2 = some res) (hQ : Qx (some (.int res)) (Z, I, L, O)) : Ok g (d + 2, RX3, cX3_written, 4, false, 0, 0, Z.length, pSl Z) Qx 0 [(0, .ref a0), (1, .int x1), (2, .int x2)] [] (Z, I, L, O) := by
  unfold f3_written at h
  refine ok_iload_n dX3_written_0 1 rfl ?_
  refine ok_if_lt (t := 18) dX3_written_1 (by decide) (fun hc1 => ?_) (fun hc1 => ?_)
  · have h := (if_pos hc1).symm.trans h
    refine ok_bipush (v := (-2)) dX3_written_18 (by decide) ?_
    cases h
    exact ok_iret dX3_written_20 hQ
  · have h := (if_neg hc1).symm.trans h
    refine ok_iload_n dX3_written_4 1 rfl ?_
    refine ok_aload_n dX3_written_5 0 rfl ?_
    refine ok_getI (ci := 3) (k := 3) dX3_written_6 flRX3_31 rfl hZ0 (by decide) ?_
    refine ok_icmp_ge (t := 18) dX3_written_9 (by decide) (fun hc2 => ?_) (fun hc2 => ?_)
    · have h := (if_pos hc2).symm.trans h
      refine ok_bipush (v := (-2)) dX3_written_18 (by decide) ?_
      cases h
      exact ok_iret dX3_written_20 hQ
    · have h := (if_neg hc2).symm.trans h
      refine ok_iload_n dX3_written_12 1 rfl ?_
      refine ok_bipush (v := 30) dX3_written_13 (by decide) ?_
      refine ok_icmp_lt (t := 21) dX3_written_15 (by decide) (fun hc3 => ?_) (fun hc3 => ?_)
      · have h := (if_pos hc3).symm.trans h
        refine ok_aload_n dX3_written_21 0 rfl ?_
        have hT4 : Z[(rO O a0 2)]? = some (13, 30) := (wt_f (ci := 3) (k := 2) hW hZ0 rfl).2
        refine ok_getR (ci := 3) (k := 2) dX3_written_22 flRX3_18 rfl hW hZ0 (by decide) ?_
        refine ok_iload_n dX3_written_25 1 rfl ?_
        obtain ⟨hg5, h⟩ := gd h
        refine ok_iald2 (N := x1.toNatClampNeg) dX3_written_26 hT4 hg5 rfl ?_
        obtain ⟨z6, ez6, h⟩ := blE h
        refine ok_nm ez6 ?_
        refine ok_istore_n (l' := [(3, .int z6), (0, .ref a0), (1, .int x1), (2, .int x2)]) dX3_written_27 rfl (Nat.le_of_ble_eq_true rfl) rfl ?_
        refine ok_iload_n dX3_written_28 3 rfl ?_
        by_cases hc7 : x2 = 0
        · have h := (if_pos hc7).symm.trans h
          refine ok_tabEq (t := 60) (off := 31) dX3_written_29 hc7 (by decide) (by decide) (by decide) (by decide) ?_
          refine ok_iload_n dX3_written_60 0 rfl ?_
          refine ok_bipush (v := 17) dX3_written_61 (by decide) ?_
          refine ok_idiv dX3_written_63 (by decide) ?_
          refine ok_iconst (v := 4) dX3_written_64 (by decide) ?_
          refine ok_idiv dX3_written_65 (by decide) ?_
          refine ok_iconst (v := 5) dX3_written_66 (by decide) ?_
          refine ok_idiv dX3_written_67 (by decide) ?_
          cases h
          exact ok_iret dX3_written_68 hQ
        · have h := (if_neg hc7).symm.trans h
          by_cases hc8 : x2 = 1
          · have h := (if_pos hc8).symm.trans h
            refine ok_tabEq (t := 69) (off := 40) dX3_written_29 hc8 (by decide) (by decide) (by decide) (by decide) ?_
            refine ok_iload_n dX3_written_69 0 rfl ?_
            refine ok_bipush (v := 17) dX3_written_70 (by decide) ?_
            refine ok_idiv dX3_written_72 (by decide) ?_
            refine ok_iconst (v := 4) dX3_written_73 (by decide) ?_
            refine ok_idiv dX3_written_74 (by decide) ?_
            refine ok_iconst (v := 5) dX3_written_75 (by decide) ?_
            refine ok_irem dX3_written_76 (by decide) ?_
            cases h
            exact ok_iret dX3_written_77 hQ
          · have h := (if_neg hc8).symm.trans h
            by_cases hc9 : x2 = 2
            · have h := (if_pos hc9).symm.trans h
              refine ok_tabEq (t := 78) (off := 49) dX3_written_29 hc9 (by decide) (by decide) (by decide) (by decide) ?_
              refine ok_iload_n dX3_written_78 0 rfl ?_
              refine ok_bipush (v := 17) dX3_written_79 (by decide) ?_
              refine ok_idiv dX3_written_81 (by decide) ?_
              refine ok_iconst (v := 4) dX3_written_82 (by decide) ?_
              refine ok_irem dX3_written_83 (by decide) ?_
              cases h
              exact ok_iret dX3_written_84 hQ
            · have h := (if_neg hc9).symm.trans h
              by_cases hc10 : x2 = 3
              · have h := (if_pos hc10).symm.trans h
                refine ok_tabEq (t := 85) (off := 56) dX3_written_29 hc10 (by decide) (by decide) (by decide) (by decide) ?_
                refine ok_iload_n dX3_written_85 0 rfl ?_
                refine ok_bipush (v := 17) dX3_written_86 (by decide) ?_
                refine ok_irem dX3_written_88 (by decide) ?_
                cases h
                exact ok_iret dX3_written_89 hQ
              · have h := (if_neg hc10).symm.trans h
                refine ok_tabOut (t := 90) dX3_written_29 (by have n0 := neI hc7 (a := 0) (by decide); have n1 := neI hc8 (a := 1) (by decide); have n2 := neI hc9 (a := 2) (by decide); have n3 := neI hc10 (a := 3) (by decide); omega) (by decide) ?_
                refine ok_bipush (v := (-2)) dX3_written_90 (by decide) ?_
                cases h
                exact ok_iret dX3_written_92 hQ
      · have h := (if_neg hc3).symm.trans h
        refine ok_bipush (v := (-2)) dX3_written_18 (by decide) ?_
        cases h
        exact ok_iret dX3_written_20 hQ
theorem k3_written {g : pG} {Q : Option Value → pW → Prop} {Z : pZ} {I : (Nat → Nat → Int32)} {L : (Nat → Nat → Int64)} {O : (Nat → Nat → Option Nat)} {a0 : Nat} {x1 : Int32} {x2 : Int32} {res : Int32} (d : Nat) (hW : WT Z O) (hZ0 : Z[a0]? = some (3, 6)) (h : f3_written I O a0 x1 x2 = some res) (hQ : Q (some (.int res)) (Z, I, L, O)) : CT g (d + 2) m3_written 0 0 [.ref a0, .int x1, .int x2] (Z, I, L, O) Q :=
  ct_of_ok (mt := m3_written) (ini := false) mo3_written.2.2.2.2 (fun h => by cases h) (Nat.le_of_ble_eq_true rfl) (o3_written d hW hZ0 h ⟨trivial, hQ, rfl, rfl⟩)
theorem dX3_pagesOf_0 : decode cX3_pagesOf 0 = .ok (.iconst 0, 1) := by decide +kernel
theorem dX3_pagesOf_1 : decode cX3_pagesOf 1 = .ok (.istore_n 2, 1) := by decide +kernel
theorem dX3_pagesOf_2 : decode cX3_pagesOf 2 = .ok (.iconst 0, 1) := by decide +kernel
theorem dX3_pagesOf_3 : decode cX3_pagesOf 3 = .ok (.istore_n 3, 1) := by decide +kernel
theorem dX3_pagesOf_4 : decode cX3_pagesOf 4 = .ok (.iload_n 3, 1) := by decide +kernel
theorem dX3_pagesOf_5 : decode cX3_pagesOf 5 = .ok (.aload_n 0, 1) := by decide +kernel
theorem dX3_pagesOf_6 : decode cX3_pagesOf 6 = .ok (.getfield 31, 3) := by decide +kernel
theorem dX3_pagesOf_9 : decode cX3_pagesOf 9 = .ok (.if_icmp .ge 22, 3) := by decide +kernel
theorem dX3_pagesOf_12 : decode cX3_pagesOf 12 = .ok (.aload_n 0, 1) := by decide +kernel
theorem dX3_pagesOf_13 : decode cX3_pagesOf 13 = .ok (.iload_n 3, 1) := by decide +kernel
theorem dX3_pagesOf_14 : decode cX3_pagesOf 14 = .ok (.iconst 1, 1) := by decide +kernel
theorem dX3_pagesOf_15 : decode cX3_pagesOf 15 = .ok (.invokevirtual 40, 3) := by decide +kernel
theorem dX3_pagesOf_18 : decode cX3_pagesOf 18 = .ok (.iload_n 1, 1) := by decide +kernel
theorem dX3_pagesOf_19 : decode cX3_pagesOf 19 = .ok (.if_icmp .ne 6, 3) := by decide +kernel
theorem dX3_pagesOf_22 : decode cX3_pagesOf 22 = .ok (.iinc 2 1, 3) := by decide +kernel
theorem dX3_pagesOf_25 : decode cX3_pagesOf 25 = .ok (.iinc 3 1, 3) := by decide +kernel
theorem dX3_pagesOf_28 : decode cX3_pagesOf 28 = .ok (.goto (-24), 3) := by decide +kernel
theorem dX3_pagesOf_31 : decode cX3_pagesOf 31 = .ok (.iload_n 2, 1) := by decide +kernel
theorem dX3_pagesOf_32 : decode cX3_pagesOf 32 = .ok (.ireturn, 1) := by decide +kernel
def m3_pagesOf : pMT := (yX3_pagesOf, cX3_pagesOf, 4, some .int)
theorem mo3_pagesOf : mOK m3_pagesOf 1 := ⟨tb_i 1272 (by decide +kernel), wi_RX3, ⟨wn_RX3.1, wn_RX3.2, by decide +kernel⟩, by decide, plainFor_of_name wp_RX3⟩
theorem mv3_pagesOf : mV m3_pagesOf := ⟨tb_i 1270 (by decide +kernel), tb_i 1271 (by decide +kernel)⟩
def f3_pagesOf_c4 (n : Nat) (I : (Nat → Nat → Int32)) (O : (Nat → Nat → Option Nat)) : Nat → Nat → Int32 → Int32 → Int32 → Option (Int32)
  | 0, _, _, _, _ => none
  | m + 1, b0, y1, y2, y3 => (if (I b0 3) ≤ y3 then some (y2) else (f3_written I O b0 y3 (1 : Int32)).bind fun r2 => (if r2 = y1 then f3_pagesOf_c4 n I O m b0 y1 (y2 + 1) (y3 + 1) else f3_pagesOf_c4 n I O m b0 y1 y2 (y3 + 1)))
set_option maxHeartbeats 4000000 in
set_option maxRecDepth 20000 in
theorem o3_pagesOf_c4 {g : pG} {Qx : Option Value → pW → Prop} {Z : pZ} {I : (Nat → Nat → Int32)} {L : (Nat → Nat → Int64)} {O : (Nat → Nat → Option Nat)} {n : Nat} {res : Int32} (d : Nat) (hW : WT Z O) (hQ : Qx (some (.int res)) (Z, I, L, O)) : ∀ (m : Nat) (b0 : Nat) (y1 : Int32) (y2 : Int32) (y3 : Int32), (Z[b0]? = some (3, 6)) → f3_pagesOf_c4 n I O m b0 y1 y2 y3 = some res → Ok g (d + 3, RX3, cX3_pagesOf, 4, false, 0, 0, Z.length, pSl Z) Qx 4 [(0, .ref b0), (1, .int y1), (2, .int y2), (3, .int y3)] [] (Z, I, L, O) := by
  intro m
  induction m with
  | zero => intro b0 y1 y2 y3 hZ_b0 h; rw [f3_pagesOf_c4] at h; cases h
  | succ m ih =>
    intro b0 y1 y2 y3 hZ_b0 h
    rw [f3_pagesOf_c4] at h
    refine ok_iload_n dX3_pagesOf_4 3 rfl ?_
    refine ok_aload_n dX3_pagesOf_5 0 rfl ?_
    refine ok_getI (ci := 3) (k := 3) dX3_pagesOf_6 flRX3_31 rfl hZ_b0 (by decide) ?_
    refine ok_icmp_ge (t := 31) dX3_pagesOf_9 (by decide) (fun hc1 => ?_) (fun hc1 => ?_)
    · have h := (if_pos hc1).symm.trans h
      refine ok_iload_n dX3_pagesOf_31 2 rfl ?_
      cases h
      exact ok_iret dX3_pagesOf_32 hQ
    · have h := (if_neg hc1).symm.trans h
      refine ok_aload_n dX3_pagesOf_12 0 rfl ?_
      refine ok_iload_n dX3_pagesOf_13 3 rfl ?_
      refine ok_iconst (v := 1) dX3_pagesOf_14 (by decide) ?_
      obtain ⟨r2, hr3, h⟩ := bd h
      refine ok_callV (d := ((d + 0) + 2)) (mt := m3_written) (mc := 0) (ms := 0) (As := [.int y3, .int 1]) (r := []) dX3_pagesOf_15 mo3_written mv3_written lkRX3_40 rfl hZ_b0 (q := (RX3, TX3, 6)) rfl rfl rfl (Nat.le_of_ble_eq_true rfl) (by show _ + 1 ≤ d + _; omega) (Nat.le_refl _) (Nat.le_refl _) (pRt_mono ?_)
      refine k3_written (d + 0) hW hZ_b0 hr3 ?_
      intro _
      show Ok g _ Qx 18 [(0, .ref b0), (1, .int y1), (2, .int y2), (3, .int y3)] [.int r2] (Z, I, L, O)
      refine ok_iload_n dX3_pagesOf_18 1 rfl ?_
      refine ok_icmp_ne (t := 25) dX3_pagesOf_19 (by decide) (fun hc4 => ?_) (fun hc4 => ?_)
      · have h := (if_neg hc4).symm.trans h
        refine ok_iinc (u := (y3 + 1)) (l' := [(3, .int (y3 + 1)), (0, .ref b0), (1, .int y1), (2, .int y2)]) dX3_pagesOf_25 3 rfl rfl (Nat.le_of_ble_eq_true rfl) rfl ?_
        refine ok_goto (t := 4) dX3_pagesOf_28 (by decide) ?_
        refine ok_sub [1, 2, 3, 0] rfl ?_
        exact ih b0 y1 y2 (y3 + 1) hZ_b0 h
      · have h := (if_pos hc4).symm.trans h
        refine ok_iinc (u := (y2 + 1)) (l' := [(2, .int (y2 + 1)), (0, .ref b0), (1, .int y1), (3, .int y3)]) dX3_pagesOf_22 2 rfl rfl (Nat.le_of_ble_eq_true rfl) rfl ?_
        refine ok_iinc (u := (y3 + 1)) (l' := [(3, .int (y3 + 1)), (2, .int (y2 + 1)), (0, .ref b0), (1, .int y1)]) dX3_pagesOf_25 3 rfl rfl (Nat.le_of_ble_eq_true rfl) rfl ?_
        refine ok_goto (t := 4) dX3_pagesOf_28 (by decide) ?_
        refine ok_sub [2, 3, 1, 0] rfl ?_
        exact ih b0 y1 (y2 + 1) (y3 + 1) hZ_b0 h
def f3_pagesOf (n : Nat) (I : (Nat → Nat → Int32)) (O : (Nat → Nat → Option Nat)) (a0 : Nat) (x1 : Int32) : Option (Int32) := f3_pagesOf_c4 n I O n a0 x1 (0 : Int32) (0 : Int32)
set_option maxHeartbeats 4000000 in
set_option maxRecDepth 20000 in
theorem o3_pagesOf {g : pG} {Qx : Option Value → pW → Prop} {Z : pZ} {I : (Nat → Nat → Int32)} {L : (Nat → Nat → Int64)} {O : (Nat → Nat → Option Nat)} {n : Nat} {a0 : Nat} {x1 : Int32} {res : Int32} (d : Nat) (hW : WT Z O) (hZ0 : Z[a0]? = some (3, 6)) (h : f3_pagesOf n I O a0 x1 = some res) (hQ : Qx (some (.int res)) (Z, I, L, O)) : Ok g (d + 3, RX3, cX3_pagesOf, 4, false, 0, 0, Z.length, pSl Z) Qx 0 [(0, .ref a0), (1, .int x1)] [] (Z, I, L, O) := by
  unfold f3_pagesOf at h
  refine ok_iconst (v := 0) dX3_pagesOf_0 (by decide) ?_
  refine ok_istore_n (l' := [(2, .int 0), (0, .ref a0), (1, .int x1)]) dX3_pagesOf_1 rfl (Nat.le_of_ble_eq_true rfl) rfl ?_
  refine ok_iconst (v := 0) dX3_pagesOf_2 (by decide) ?_
  refine ok_istore_n (l' := [(3, .int 0), (2, .int 0), (0, .ref a0), (1, .int x1)]) dX3_pagesOf_3 rfl (Nat.le_of_ble_eq_true rfl) rfl ?_
  refine ok_sub [2, 3, 1, 0] rfl ?_
  exact o3_pagesOf_c4 d hW hQ  n a0 x1 (0 : Int32) (0 : Int32) hZ0 h
theorem k3_pagesOf {g : pG} {Q : Option Value → pW → Prop} {Z : pZ} {I : (Nat → Nat → Int32)} {L : (Nat → Nat → Int64)} {O : (Nat → Nat → Option Nat)} {n : Nat} {a0 : Nat} {x1 : Int32} {res : Int32} (d : Nat) (hW : WT Z O) (hZ0 : Z[a0]? = some (3, 6)) (h : f3_pagesOf n I O a0 x1 = some res) (hQ : Q (some (.int res)) (Z, I, L, O)) : CT g (d + 3) m3_pagesOf 0 0 [.ref a0, .int x1] (Z, I, L, O) Q :=
  ct_of_ok (mt := m3_pagesOf) (ini := false) mo3_pagesOf.2.2.2.2 (fun h => by cases h) (Nat.le_of_ble_eq_true rfl) (o3_pagesOf d hW hZ0 h ⟨trivial, hQ, rfl, rfl⟩)
