theorem flRX10_9 : FL RX10 9 10 0 := ⟨(RX10, TX10, 5), rfl, by decide, tb_i 78 (by decide +kernel)⟩
theorem flRX10_15 : FL RX10 15 10 1 := ⟨(RX10, TX10, 5), rfl, by decide, tb_i 79 (by decide +kernel)⟩
theorem flRX10_21 : FL RX10 21 10 2 := ⟨(RX10, TX10, 5), rfl, by decide, tb_i 81 (by decide +kernel)⟩
theorem flRX10_35 : FL RX10 35 10 3 := ⟨(RX10, TX10, 5), rfl, by decide, tb_i 86 (by decide +kernel)⟩
theorem flRX10_39 : FL RX10 39 10 4 := ⟨(RX10, TX10, 5), rfl, by decide, tb_i 90 (by decide +kernel)⟩
theorem flRX10_50 : FL RX10 50 3 0 := ⟨(RX3, TX3, 6), rfl, by decide, tb_i 51 (by decide +kernel)⟩
theorem flRX10_62 : FL RX10 62 3 1 := ⟨(RX3, TX3, 6), rfl, by decide, tb_i 53 (by decide +kernel)⟩
theorem lkRX10_25 : Cond.methodLink RX10 25 arraycopyName ∈ lw_tbl := tb_i 989 (by decide +kernel)
theorem lkRX10_31 : Cond.methodLink RX10 31 yX3_take ∈ lw_tbl := tb_i 990 (by decide +kernel)
theorem lkRX10_42 : Cond.methodLink RX10 42 yX10_hasRoll ∈ lw_tbl := tb_i 703 (by decide +kernel)
theorem lkRX10_46 : Cond.methodLink RX10 46 yX10_hasPlace ∈ lw_tbl := tb_i 708 (by decide +kernel)
theorem lkRX10_53 : Cond.methodLink RX10 53 yJ9_min_7cf53 ∈ lw_tbl := tb_i 806 (by decide +kernel)
theorem lkRX10_59 : Cond.methodLink RX10 59 yX10_hasChild ∈ lw_tbl := tb_i 730 (by decide +kernel)
theorem lkRX10_65 : Cond.methodLink RX10 65 yX10_timesHeard ∈ lw_tbl := tb_i 918 (by decide +kernel)
theorem lkRX10_68 : Cond.methodLink RX10 68 yX10_size ∈ lw_tbl := tb_i 937 (by decide +kernel)
theorem lkRX10_72 : Cond.methodLink RX10 72 yX10_isTorn ∈ lw_tbl := tb_i 938 (by decide +kernel)
theorem lkRX10_75 : Cond.methodLink RX10 75 yX10_keyAt ∈ lw_tbl := tb_i 946 (by decide +kernel)
theorem lkRX10_78 : Cond.methodLink RX10 78 yX10_wearAt ∈ lw_tbl := tb_i 1256 (by decide +kernel)
theorem lkRX10_81 : Cond.methodLink RX10 81 yX10_sounds ∈ lw_tbl := tb_i 1171 (by decide +kernel)
theorem dX10_take_0 : decode cX10_take 0 = .ok (.aload_n 1, 1) := by decide +kernel
theorem dX10_take_1 : decode cX10_take 1 = .ok (.getfield 9, 3) := by decide +kernel
theorem dX10_take_4 : decode cX10_take 4 = .ok (.iconst 0, 1) := by decide +kernel
theorem dX10_take_5 : decode cX10_take 5 = .ok (.aload_n 0, 1) := by decide +kernel
theorem dX10_take_6 : decode cX10_take 6 = .ok (.getfield 9, 3) := by decide +kernel
theorem dX10_take_9 : decode cX10_take 9 = .ok (.iconst 0, 1) := by decide +kernel
theorem dX10_take_10 : decode cX10_take 10 = .ok (.iconst 5, 1) := by decide +kernel
theorem dX10_take_11 : decode cX10_take 11 = .ok (.invokestatic 25, 3) := by decide +kernel
theorem dX10_take_14 : decode cX10_take 14 = .ok (.aload_n 1, 1) := by decide +kernel
theorem dX10_take_15 : decode cX10_take 15 = .ok (.getfield 15, 3) := by decide +kernel
theorem dX10_take_18 : decode cX10_take 18 = .ok (.iconst 0, 1) := by decide +kernel
theorem dX10_take_19 : decode cX10_take 19 = .ok (.aload_n 0, 1) := by decide +kernel
theorem dX10_take_20 : decode cX10_take 20 = .ok (.getfield 15, 3) := by decide +kernel
theorem dX10_take_23 : decode cX10_take 23 = .ok (.iconst 0, 1) := by decide +kernel
theorem dX10_take_24 : decode cX10_take 24 = .ok (.bipush 80, 2) := by decide +kernel
theorem dX10_take_26 : decode cX10_take 26 = .ok (.invokestatic 25, 3) := by decide +kernel
theorem dX10_take_29 : decode cX10_take 29 = .ok (.aload_n 0, 1) := by decide +kernel
theorem dX10_take_30 : decode cX10_take 30 = .ok (.getfield 21, 3) := by decide +kernel
theorem dX10_take_33 : decode cX10_take 33 = .ok (.aload_n 1, 1) := by decide +kernel
theorem dX10_take_34 : decode cX10_take 34 = .ok (.getfield 21, 3) := by decide +kernel
theorem dX10_take_37 : decode cX10_take 37 = .ok (.invokevirtual 31, 3) := by decide +kernel
theorem dX10_take_40 : decode cX10_take 40 = .ok (.aload_n 0, 1) := by decide +kernel
theorem dX10_take_41 : decode cX10_take 41 = .ok (.aload_n 1, 1) := by decide +kernel
theorem dX10_take_42 : decode cX10_take 42 = .ok (.getfield 35, 3) := by decide +kernel
theorem dX10_take_45 : decode cX10_take 45 = .ok (.putfield 35, 3) := by decide +kernel
theorem dX10_take_48 : decode cX10_take 48 = .ok (.aload_n 0, 1) := by decide +kernel
theorem dX10_take_49 : decode cX10_take 49 = .ok (.aload_n 1, 1) := by decide +kernel
theorem dX10_take_50 : decode cX10_take 50 = .ok (.getfield 39, 3) := by decide +kernel
theorem dX10_take_53 : decode cX10_take 53 = .ok (.putfield 39, 3) := by decide +kernel
theorem dX10_take_56 : decode cX10_take 56 = .ok (.return_, 1) := by decide +kernel
theorem wi_RX10 : Cond.initialized RX10 ∈ lw_tbl := tb_i 3 (by decide +kernel)
theorem wn_RX10 : RX10 ≠ "java/lang/invoke/MethodHandle" ∧ RX10 ≠ "java/lang/invoke/VarHandle" := ⟨by decide +kernel, by decide +kernel⟩
theorem wp_RX10 : plainName RX10 = true := by decide +kernel
def m10_take : pMT := (yX10_take, cX10_take, 2, none)
theorem mo10_take : mOK m10_take 1 := ⟨tb_i 988 (by decide +kernel), wi_RX10, ⟨wn_RX10.1, wn_RX10.2, by decide +kernel⟩, by decide, plainFor_of_name wp_RX10⟩
theorem mv10_take : mV m10_take := ⟨tb_i 986 (by decide +kernel), tb_i 987 (by decide +kernel)⟩
def f10_take (I : (Nat → Nat → Int32)) (O : (Nat → Nat → Option Nat)) (a0 : Nat) (a1 : Nat) : Option ((Nat → Nat → Int32)) := bl (cpI I (rO O a1 0) (rO O a0 0) 0 0 5) fun I3 => bl (cpI I3 (rO O a1 1) (rO O a0 1) 0 0 80) fun I6 => (f3_take I6 O (rO O a0 2) (rO O a1 2)).bind fun r9 => bl (sI r9 a0 3 (r9 a1 3)) fun I11 => bl (sI I11 a0 4 (I11 a1 4)) fun I12 => some (I12)
set_option maxHeartbeats 4000000 in
set_option maxRecDepth 20000 in
theorem o10_take {g : pG} {Qx : Option Value → pW → Prop} {Z : pZ} {I : (Nat → Nat → Int32)} {L : (Nat → Nat → Int64)} {O : (Nat → Nat → Option Nat)} {a0 : Nat} {a1 : Nat} {res : (Nat → Nat → Int32)} (d : Nat) (hW : WT Z O) (hZ0 : Z[a0]? = some (10, 5)) (hZ1 : Z[a1]? = some (10, 5)) (h : f10_take I O a0 a1 = some res) (hQ : Qx none (Z, res, L, O)) : Ok g (d + 3, RX10, cX10_take, 2, false, 0, 0, Z.length, pSl Z) Qx 0 [(0, .ref a0), (1, .ref a1)] [] (Z, I, L, O) := by
  unfold f10_take at h
  refine ok_aload_n dX10_take_0 1 rfl ?_
  have hT1 : Z[(rO O a1 0)]? = some (13, 5) := (wt_f (ci := 10) (k := 0) hW hZ1 rfl).2
  refine ok_getR (ci := 10) (k := 0) dX10_take_1 flRX10_9 rfl hW hZ1 (by decide) ?_
  refine ok_iconst (v := 0) dX10_take_4 (by decide) ?_
  refine ok_aload_n dX10_take_5 0 rfl ?_
  have hT2 : Z[(rO O a0 0)]? = some (13, 5) := (wt_f (ci := 10) (k := 0) hW hZ0 rfl).2
  refine ok_getR (ci := 10) (k := 0) dX10_take_6 flRX10_9 rfl hW hZ0 (by decide) ?_
  refine ok_iconst (v := 0) dX10_take_9 (by decide) ?_
  refine ok_iconst (v := 5) dX10_take_10 (by decide) ?_
  obtain ⟨I3, eI3, h⟩ := blE h
  refine ok_copy2 (N := 5) (S := 0) (T := 0) dX10_take_11 lkRX10_25 hT1 hT2 (by decide) (by decide) (by decide) (by decide) (by decide) (by decide) (by decide) (by decide) (Nat.le_of_ble_eq_true rfl) (by show 1 ≤ d + _; omega) eI3 ?_
  refine ok_aload_n dX10_take_14 1 rfl ?_
  have hT4 : Z[(rO O a1 1)]? = some (13, 80) := (wt_f (ci := 10) (k := 1) hW hZ1 rfl).2
  refine ok_getR (ci := 10) (k := 1) dX10_take_15 flRX10_15 rfl hW hZ1 (by decide) ?_
  refine ok_iconst (v := 0) dX10_take_18 (by decide) ?_
  refine ok_aload_n dX10_take_19 0 rfl ?_
  have hT5 : Z[(rO O a0 1)]? = some (13, 80) := (wt_f (ci := 10) (k := 1) hW hZ0 rfl).2
  refine ok_getR (ci := 10) (k := 1) dX10_take_20 flRX10_15 rfl hW hZ0 (by decide) ?_
  refine ok_iconst (v := 0) dX10_take_23 (by decide) ?_
  refine ok_bipush (v := 80) dX10_take_24 (by decide) ?_
  obtain ⟨I6, eI6, h⟩ := blE h
  refine ok_copy2 (N := 80) (S := 0) (T := 0) dX10_take_26 lkRX10_25 hT4 hT5 (by decide) (by decide) (by decide) (by decide) (by decide) (by decide) (by decide) (by decide) (Nat.le_of_ble_eq_true rfl) (by show 1 ≤ d + _; omega) eI6 ?_
  refine ok_aload_n dX10_take_29 0 rfl ?_
  have hT7 : Z[(rO O a0 2)]? = some (3, 6) := (wt_f (ci := 10) (k := 2) hW hZ0 rfl).2
  refine ok_getR (ci := 10) (k := 2) dX10_take_30 flRX10_21 rfl hW hZ0 (by decide) ?_
  refine ok_aload_n dX10_take_33 1 rfl ?_
  have hT8 : Z[(rO O a1 2)]? = some (3, 6) := (wt_f (ci := 10) (k := 2) hW hZ1 rfl).2
  refine ok_getR (ci := 10) (k := 2) dX10_take_34 flRX10_21 rfl hW hZ1 (by decide) ?_
  obtain ⟨r9, hr10, h⟩ := bd h
  refine ok_callV (d := ((d + 0) + 2)) (mt := m3_take) (mc := 0) (ms := 0) (As := [.ref (rO O a1 2)]) (r := []) dX10_take_37 mo3_take mv3_take lkRX10_31 rfl hT7 (q := (RX3, TX3, 6)) rfl rfl rfl (Nat.le_of_ble_eq_true rfl) (by show _ + 1 ≤ d + _; omega) (Nat.le_refl _) (Nat.le_refl _) (pRt_mono ?_)
  refine k3_take (d + 0) hW hT7 hT8 hr10 ?_
  intro _
  show Ok g _ Qx 40 [(0, .ref a0), (1, .ref a1)] [] (Z, r9, L, O)
  refine ok_aload_n dX10_take_40 0 rfl ?_
  refine ok_aload_n dX10_take_41 1 rfl ?_
  refine ok_getI (ci := 10) (k := 3) dX10_take_42 flRX10_35 rfl hZ1 (by decide) ?_
  obtain ⟨I11, eI11, h⟩ := blE h
  refine ok_putI2 (ci := 10) (k := 3) dX10_take_45 flRX10_35 rfl (Or.inl rfl) hZ0 (by decide) eI11 ?_
  refine ok_aload_n dX10_take_48 0 rfl ?_
  refine ok_aload_n dX10_take_49 1 rfl ?_
  refine ok_getI (ci := 10) (k := 4) dX10_take_50 flRX10_39 rfl hZ1 (by decide) ?_
  obtain ⟨I12, eI12, h⟩ := blE h
  refine ok_putI2 (ci := 10) (k := 4) dX10_take_53 flRX10_39 rfl (Or.inl rfl) hZ0 (by decide) eI12 ?_
  cases h
  exact ok_vret dX10_take_56 hQ
theorem k10_take {g : pG} {Q : Option Value → pW → Prop} {Z : pZ} {I : (Nat → Nat → Int32)} {L : (Nat → Nat → Int64)} {O : (Nat → Nat → Option Nat)} {a0 : Nat} {a1 : Nat} {res : (Nat → Nat → Int32)} (d : Nat) (hW : WT Z O) (hZ0 : Z[a0]? = some (10, 5)) (hZ1 : Z[a1]? = some (10, 5)) (h : f10_take I O a0 a1 = some res) (hQ : Q none (Z, res, L, O)) : CT g (d + 3) m10_take 0 0 [.ref a0, .ref a1] (Z, I, L, O) Q :=
  ct_of_ok (mt := m10_take) (ini := false) mo10_take.2.2.2.2 (fun h => by cases h) (Nat.le_of_ble_eq_true rfl) (o10_take d hW hZ0 hZ1 h ⟨trivial, hQ, rfl, rfl⟩)
theorem dX10_addRoll_0 : decode cX10_addRoll 0 = .ok (.iload_n 1, 1) := by decide +kernel
theorem dX10_addRoll_1 : decode cX10_addRoll 1 = .ok (.iconst 1, 1) := by decide +kernel
theorem dX10_addRoll_2 : decode cX10_addRoll 2 = .ok (.if_icmp .lt 24, 3) := by decide +kernel
theorem dX10_addRoll_5 : decode cX10_addRoll 5 = .ok (.iload_n 1, 1) := by decide +kernel
theorem dX10_addRoll_6 : decode cX10_addRoll 6 = .ok (.bipush 16, 2) := by decide +kernel
theorem dX10_addRoll_8 : decode cX10_addRoll 8 = .ok (.if_icmp .gt 18, 3) := by decide +kernel
theorem dX10_addRoll_11 : decode cX10_addRoll 11 = .ok (.aload_n 0, 1) := by decide +kernel
theorem dX10_addRoll_12 : decode cX10_addRoll 12 = .ok (.getfield 35, 3) := by decide +kernel
theorem dX10_addRoll_15 : decode cX10_addRoll 15 = .ok (.ifCond .lt 11, 3) := by decide +kernel
theorem dX10_addRoll_18 : decode cX10_addRoll 18 = .ok (.aload_n 0, 1) := by decide +kernel
theorem dX10_addRoll_19 : decode cX10_addRoll 19 = .ok (.getfield 35, 3) := by decide +kernel
theorem dX10_addRoll_22 : decode cX10_addRoll 22 = .ok (.iconst 5, 1) := by decide +kernel
theorem dX10_addRoll_23 : decode cX10_addRoll 23 = .ok (.if_icmp .lt 5, 3) := by decide +kernel
theorem dX10_addRoll_26 : decode cX10_addRoll 26 = .ok (.iconst (-1), 1) := by decide +kernel
theorem dX10_addRoll_27 : decode cX10_addRoll 27 = .ok (.ireturn, 1) := by decide +kernel
theorem dX10_addRoll_28 : decode cX10_addRoll 28 = .ok (.aload_n 0, 1) := by decide +kernel
theorem dX10_addRoll_29 : decode cX10_addRoll 29 = .ok (.getfield 9, 3) := by decide +kernel
theorem dX10_addRoll_32 : decode cX10_addRoll 32 = .ok (.aload_n 0, 1) := by decide +kernel
theorem dX10_addRoll_33 : decode cX10_addRoll 33 = .ok (.getfield 35, 3) := by decide +kernel
theorem dX10_addRoll_36 : decode cX10_addRoll 36 = .ok (.iload_n 1, 1) := by decide +kernel
theorem dX10_addRoll_37 : decode cX10_addRoll 37 = .ok (.iastore, 1) := by decide +kernel
theorem dX10_addRoll_38 : decode cX10_addRoll 38 = .ok (.aload_n 0, 1) := by decide +kernel
theorem dX10_addRoll_39 : decode cX10_addRoll 39 = .ok (.dup, 1) := by decide +kernel
theorem dX10_addRoll_40 : decode cX10_addRoll 40 = .ok (.getfield 35, 3) := by decide +kernel
theorem dX10_addRoll_43 : decode cX10_addRoll 43 = .ok (.iconst 1, 1) := by decide +kernel
theorem dX10_addRoll_44 : decode cX10_addRoll 44 = .ok (.iadd, 1) := by decide +kernel
theorem dX10_addRoll_45 : decode cX10_addRoll 45 = .ok (.putfield 35, 3) := by decide +kernel
theorem dX10_addRoll_48 : decode cX10_addRoll 48 = .ok (.aload_n 0, 1) := by decide +kernel
theorem dX10_addRoll_49 : decode cX10_addRoll 49 = .ok (.getfield 35, 3) := by decide +kernel
theorem dX10_addRoll_52 : decode cX10_addRoll 52 = .ok (.iconst 1, 1) := by decide +kernel
theorem dX10_addRoll_53 : decode cX10_addRoll 53 = .ok (.isub, 1) := by decide +kernel
theorem dX10_addRoll_54 : decode cX10_addRoll 54 = .ok (.ireturn, 1) := by decide +kernel
def m10_addRoll : pMT := (yX10_addRoll, cX10_addRoll, 2, some .int)
theorem mo10_addRoll : mOK m10_addRoll 1 := ⟨tb_i 397 (by decide +kernel), wi_RX10, ⟨wn_RX10.1, wn_RX10.2, by decide +kernel⟩, by decide, plainFor_of_name wp_RX10⟩
theorem mv10_addRoll : mV m10_addRoll := ⟨tb_i 395 (by decide +kernel), tb_i 396 (by decide +kernel)⟩
def f10_addRoll (I : (Nat → Nat → Int32)) (O : (Nat → Nat → Option Nat)) (a0 : Nat) (x1 : Int32) : Option (Int32 × (Nat → Nat → Int32)) := (if x1 < (1 : Int32) then some (((-1) : Int32), I) else (if (16 : Int32) < x1 then some (((-1) : Int32), I) else (if (I a0 3) < 0 then some (((-1) : Int32), I) else (if (I a0 3) < (5 : Int32) then (if (I a0 3) < 0 ∨ 5 ≤ (I a0 3).toNatClampNeg then none else bl (sI I (rO O a0 0) (I a0 3).toNatClampNeg x1) fun I7 => bl (sI I7 a0 3 ((I7 a0 3) + 1)) fun I8 => some (((I8 a0 3) - 1), I8)) else some (((-1) : Int32), I)))))
set_option maxHeartbeats 4000000 in
set_option maxRecDepth 20000 in
theorem o10_addRoll {g : pG} {Qx : Option Value → pW → Prop} {Z : pZ} {I : (Nat → Nat → Int32)} {L : (Nat → Nat → Int64)} {O : (Nat → Nat → Option Nat)} {a0 : Nat} {x1 : Int32} {res : Int32 × (Nat → Nat → Int32)} (d : Nat) (hW : WT Z O) (hZ0 : Z[a0]? = some (10, 5)) (h : f10_addRoll I O a0 x1 = some res) (hQ : Qx (some (.int res.1)) (Z, res.2, L, O)) : Ok g (d + 2, RX10, cX10_addRoll, 2, false, 0, 0, Z.length, pSl Z) Qx 0 [(0, .ref a0), (1, .int x1)] [] (Z, I, L, O) := by
  unfold f10_addRoll at h
  refine ok_iload_n dX10_addRoll_0 1 rfl ?_
  refine ok_iconst (v := 1) dX10_addRoll_1 (by decide) ?_
  refine ok_icmp_lt (t := 26) dX10_addRoll_2 (by decide) (fun hc1 => ?_) (fun hc1 => ?_)
  · have h := (if_pos hc1).symm.trans h
    refine ok_iconst (v := (-1)) dX10_addRoll_26 (by decide) ?_
    cases h
    exact ok_iret dX10_addRoll_27 hQ
  · have h := (if_neg hc1).symm.trans h
    refine ok_iload_n dX10_addRoll_5 1 rfl ?_
    refine ok_bipush (v := 16) dX10_addRoll_6 (by decide) ?_
    refine ok_icmp_gt (t := 26) dX10_addRoll_8 (by decide) (fun hc2 => ?_) (fun hc2 => ?_)
    · have h := (if_pos hc2).symm.trans h
      refine ok_iconst (v := (-1)) dX10_addRoll_26 (by decide) ?_
      cases h
      exact ok_iret dX10_addRoll_27 hQ
    · have h := (if_neg hc2).symm.trans h
      refine ok_aload_n dX10_addRoll_11 0 rfl ?_
      refine ok_getI (ci := 10) (k := 3) dX10_addRoll_12 flRX10_35 rfl hZ0 (by decide) ?_
      refine ok_if_lt (t := 26) dX10_addRoll_15 (by decide) (fun hc3 => ?_) (fun hc3 => ?_)
      · have h := (if_pos hc3).symm.trans h
        refine ok_iconst (v := (-1)) dX10_addRoll_26 (by decide) ?_
        cases h
        exact ok_iret dX10_addRoll_27 hQ
      · have h := (if_neg hc3).symm.trans h
        refine ok_aload_n dX10_addRoll_18 0 rfl ?_
        refine ok_getI (ci := 10) (k := 3) dX10_addRoll_19 flRX10_35 rfl hZ0 (by decide) ?_
        refine ok_iconst (v := 5) dX10_addRoll_22 (by decide) ?_
        refine ok_icmp_lt (t := 28) dX10_addRoll_23 (by decide) (fun hc4 => ?_) (fun hc4 => ?_)
        · have h := (if_pos hc4).symm.trans h
          refine ok_aload_n dX10_addRoll_28 0 rfl ?_
          have hT5 : Z[(rO O a0 0)]? = some (13, 5) := (wt_f (ci := 10) (k := 0) hW hZ0 rfl).2
          refine ok_getR (ci := 10) (k := 0) dX10_addRoll_29 flRX10_9 rfl hW hZ0 (by decide) ?_
          refine ok_aload_n dX10_addRoll_32 0 rfl ?_
          refine ok_getI (ci := 10) (k := 3) dX10_addRoll_33 flRX10_35 rfl hZ0 (by decide) ?_
          refine ok_iload_n dX10_addRoll_36 1 rfl ?_
          obtain ⟨hg6, h⟩ := gd h
          obtain ⟨I7, eI7, h⟩ := blE h
          refine ok_iast3 dX10_addRoll_37 hT5 hg6 rfl eI7 ?_
          refine ok_aload_n dX10_addRoll_38 0 rfl ?_
          refine ok_dup dX10_addRoll_39 rfl ?_
          refine ok_getI (ci := 10) (k := 3) dX10_addRoll_40 flRX10_35 rfl hZ0 (by decide) ?_
          refine ok_iconst (v := 1) dX10_addRoll_43 (by decide) ?_
          refine ok_iadd dX10_addRoll_44 ?_
          obtain ⟨I8, eI8, h⟩ := blE h
          refine ok_putI2 (ci := 10) (k := 3) dX10_addRoll_45 flRX10_35 rfl (Or.inl rfl) hZ0 (by decide) eI8 ?_
          refine ok_aload_n dX10_addRoll_48 0 rfl ?_
          refine ok_getI (ci := 10) (k := 3) dX10_addRoll_49 flRX10_35 rfl hZ0 (by decide) ?_
          refine ok_iconst (v := 1) dX10_addRoll_52 (by decide) ?_
          refine ok_isub dX10_addRoll_53 ?_
          cases h
          exact ok_iret dX10_addRoll_54 hQ
        · have h := (if_neg hc4).symm.trans h
          refine ok_iconst (v := (-1)) dX10_addRoll_26 (by decide) ?_
          cases h
          exact ok_iret dX10_addRoll_27 hQ
theorem k10_addRoll {g : pG} {Q : Option Value → pW → Prop} {Z : pZ} {I : (Nat → Nat → Int32)} {L : (Nat → Nat → Int64)} {O : (Nat → Nat → Option Nat)} {a0 : Nat} {x1 : Int32} {res : Int32 × (Nat → Nat → Int32)} (d : Nat) (hW : WT Z O) (hZ0 : Z[a0]? = some (10, 5)) (h : f10_addRoll I O a0 x1 = some res) (hQ : Q (some (.int res.1)) (Z, res.2, L, O)) : CT g (d + 2) m10_addRoll 0 0 [.ref a0, .int x1] (Z, I, L, O) Q :=
  ct_of_ok (mt := m10_addRoll) (ini := false) mo10_addRoll.2.2.2.2 (fun h => by cases h) (Nat.le_of_ble_eq_true rfl) (o10_addRoll d hW hZ0 h ⟨trivial, hQ, rfl, rfl⟩)
theorem dX10_addChild_0 : decode cX10_addChild 0 = .ok (.aload_n 0, 1) := by decide +kernel
theorem dX10_addChild_1 : decode cX10_addChild 1 = .ok (.getfield 39, 3) := by decide +kernel
theorem dX10_addChild_4 : decode cX10_addChild 4 = .ok (.ifCond .lt 11, 3) := by decide +kernel
theorem dX10_addChild_7 : decode cX10_addChild 7 = .ok (.aload_n 0, 1) := by decide +kernel
theorem dX10_addChild_8 : decode cX10_addChild 8 = .ok (.getfield 39, 3) := by decide +kernel
theorem dX10_addChild_11 : decode cX10_addChild 11 = .ok (.iconst 4, 1) := by decide +kernel
theorem dX10_addChild_12 : decode cX10_addChild 12 = .ok (.if_icmp .lt 5, 3) := by decide +kernel
theorem dX10_addChild_15 : decode cX10_addChild 15 = .ok (.iconst (-1), 1) := by decide +kernel
theorem dX10_addChild_16 : decode cX10_addChild 16 = .ok (.ireturn, 1) := by decide +kernel
theorem dX10_addChild_17 : decode cX10_addChild 17 = .ok (.aload_n 0, 1) := by decide +kernel
theorem dX10_addChild_18 : decode cX10_addChild 18 = .ok (.dup, 1) := by decide +kernel
theorem dX10_addChild_19 : decode cX10_addChild 19 = .ok (.getfield 39, 3) := by decide +kernel
theorem dX10_addChild_22 : decode cX10_addChild 22 = .ok (.iconst 1, 1) := by decide +kernel
theorem dX10_addChild_23 : decode cX10_addChild 23 = .ok (.iadd, 1) := by decide +kernel
theorem dX10_addChild_24 : decode cX10_addChild 24 = .ok (.putfield 39, 3) := by decide +kernel
theorem dX10_addChild_27 : decode cX10_addChild 27 = .ok (.aload_n 0, 1) := by decide +kernel
theorem dX10_addChild_28 : decode cX10_addChild 28 = .ok (.getfield 39, 3) := by decide +kernel
theorem dX10_addChild_31 : decode cX10_addChild 31 = .ok (.iconst 1, 1) := by decide +kernel
theorem dX10_addChild_32 : decode cX10_addChild 32 = .ok (.isub, 1) := by decide +kernel
theorem dX10_addChild_33 : decode cX10_addChild 33 = .ok (.ireturn, 1) := by decide +kernel
def m10_addChild : pMT := (yX10_addChild, cX10_addChild, 1, some .int)
theorem mo10_addChild : mOK m10_addChild 0 := ⟨tb_i 421 (by decide +kernel), wi_RX10, ⟨wn_RX10.1, wn_RX10.2, by decide +kernel⟩, by decide, plainFor_of_name wp_RX10⟩
theorem mv10_addChild : mV m10_addChild := ⟨tb_i 419 (by decide +kernel), tb_i 420 (by decide +kernel)⟩
def f10_addChild (I : (Nat → Nat → Int32)) (a0 : Nat) : Option (Int32 × (Nat → Nat → Int32)) := (if (I a0 4) < 0 then some (((-1) : Int32), I) else (if (I a0 4) < (4 : Int32) then bl (sI I a0 4 ((I a0 4) + 1)) fun I3 => some (((I3 a0 4) - 1), I3) else some (((-1) : Int32), I)))
set_option maxHeartbeats 4000000 in
set_option maxRecDepth 20000 in
theorem o10_addChild {g : pG} {Qx : Option Value → pW → Prop} {Z : pZ} {I : (Nat → Nat → Int32)} {L : (Nat → Nat → Int64)} {O : (Nat → Nat → Option Nat)} {a0 : Nat} {res : Int32 × (Nat → Nat → Int32)} (d : Nat) (hW : WT Z O) (hZ0 : Z[a0]? = some (10, 5)) (h : f10_addChild I a0 = some res) (hQ : Qx (some (.int res.1)) (Z, res.2, L, O)) : Ok g (d + 2, RX10, cX10_addChild, 1, false, 0, 0, Z.length, pSl Z) Qx 0 [(0, .ref a0)] [] (Z, I, L, O) := by
  unfold f10_addChild at h
  refine ok_aload_n dX10_addChild_0 0 rfl ?_
  refine ok_getI (ci := 10) (k := 4) dX10_addChild_1 flRX10_39 rfl hZ0 (by decide) ?_
  refine ok_if_lt (t := 15) dX10_addChild_4 (by decide) (fun hc1 => ?_) (fun hc1 => ?_)
  · have h := (if_pos hc1).symm.trans h
    refine ok_iconst (v := (-1)) dX10_addChild_15 (by decide) ?_
    cases h
    exact ok_iret dX10_addChild_16 hQ
  · have h := (if_neg hc1).symm.trans h
    refine ok_aload_n dX10_addChild_7 0 rfl ?_
    refine ok_getI (ci := 10) (k := 4) dX10_addChild_8 flRX10_39 rfl hZ0 (by decide) ?_
    refine ok_iconst (v := 4) dX10_addChild_11 (by decide) ?_
    refine ok_icmp_lt (t := 17) dX10_addChild_12 (by decide) (fun hc2 => ?_) (fun hc2 => ?_)
    · have h := (if_pos hc2).symm.trans h
      refine ok_aload_n dX10_addChild_17 0 rfl ?_
      refine ok_dup dX10_addChild_18 rfl ?_
      refine ok_getI (ci := 10) (k := 4) dX10_addChild_19 flRX10_39 rfl hZ0 (by decide) ?_
      refine ok_iconst (v := 1) dX10_addChild_22 (by decide) ?_
      refine ok_iadd dX10_addChild_23 ?_
      obtain ⟨I3, eI3, h⟩ := blE h
      refine ok_putI2 (ci := 10) (k := 4) dX10_addChild_24 flRX10_39 rfl (Or.inl rfl) hZ0 (by decide) eI3 ?_
      refine ok_aload_n dX10_addChild_27 0 rfl ?_
      refine ok_getI (ci := 10) (k := 4) dX10_addChild_28 flRX10_39 rfl hZ0 (by decide) ?_
      refine ok_iconst (v := 1) dX10_addChild_31 (by decide) ?_
      refine ok_isub dX10_addChild_32 ?_
      cases h
      exact ok_iret dX10_addChild_33 hQ
    · have h := (if_neg hc2).symm.trans h
      refine ok_iconst (v := (-1)) dX10_addChild_15 (by decide) ?_
      cases h
      exact ok_iret dX10_addChild_16 hQ
theorem k10_addChild {g : pG} {Q : Option Value → pW → Prop} {Z : pZ} {I : (Nat → Nat → Int32)} {L : (Nat → Nat → Int64)} {O : (Nat → Nat → Option Nat)} {a0 : Nat} {res : Int32 × (Nat → Nat → Int32)} (d : Nat) (hW : WT Z O) (hZ0 : Z[a0]? = some (10, 5)) (h : f10_addChild I a0 = some res) (hQ : Q (some (.int res.1)) (Z, res.2, L, O)) : CT g (d + 2) m10_addChild 0 0 [.ref a0] (Z, I, L, O) Q :=
  ct_of_ok (mt := m10_addChild) (ini := false) mo10_addChild.2.2.2.2 (fun h => by cases h) (Nat.le_of_ble_eq_true rfl) (o10_addChild d hW hZ0 h ⟨trivial, hQ, rfl, rfl⟩)
theorem dX10_hasRoll_0 : decode cX10_hasRoll 0 = .ok (.iload_n 1, 1) := by decide +kernel
theorem dX10_hasRoll_1 : decode cX10_hasRoll 1 = .ok (.ifCond .lt 20, 3) := by decide +kernel
theorem dX10_hasRoll_4 : decode cX10_hasRoll 4 = .ok (.iload_n 1, 1) := by decide +kernel
theorem dX10_hasRoll_5 : decode cX10_hasRoll 5 = .ok (.aload_n 0, 1) := by decide +kernel
theorem dX10_hasRoll_6 : decode cX10_hasRoll 6 = .ok (.getfield 35, 3) := by decide +kernel
theorem dX10_hasRoll_9 : decode cX10_hasRoll 9 = .ok (.if_icmp .ge 12, 3) := by decide +kernel
theorem dX10_hasRoll_12 : decode cX10_hasRoll 12 = .ok (.iload_n 1, 1) := by decide +kernel
theorem dX10_hasRoll_13 : decode cX10_hasRoll 13 = .ok (.iconst 5, 1) := by decide +kernel
theorem dX10_hasRoll_14 : decode cX10_hasRoll 14 = .ok (.if_icmp .ge 7, 3) := by decide +kernel
theorem dX10_hasRoll_17 : decode cX10_hasRoll 17 = .ok (.iconst 1, 1) := by decide +kernel
theorem dX10_hasRoll_18 : decode cX10_hasRoll 18 = .ok (.goto 4, 3) := by decide +kernel
theorem dX10_hasRoll_21 : decode cX10_hasRoll 21 = .ok (.iconst 0, 1) := by decide +kernel
theorem dX10_hasRoll_22 : decode cX10_hasRoll 22 = .ok (.ireturn, 1) := by decide +kernel
def m10_hasRoll : pMT := (yX10_hasRoll, cX10_hasRoll, 2, some .boolean)
theorem mo10_hasRoll : mOK m10_hasRoll 1 := ⟨tb_i 664 (by decide +kernel), wi_RX10, ⟨wn_RX10.1, wn_RX10.2, by decide +kernel⟩, by decide, plainFor_of_name wp_RX10⟩
theorem mv10_hasRoll : mV m10_hasRoll := ⟨tb_i 662 (by decide +kernel), tb_i 663 (by decide +kernel)⟩
def f10_hasRoll (I : (Nat → Nat → Int32)) (a0 : Nat) (x1 : Int32) : Option (Int32) := (if x1 < 0 then some ((0 : Int32)) else (if (I a0 3) ≤ x1 then some ((0 : Int32)) else (if (5 : Int32) ≤ x1 then some ((0 : Int32)) else some ((1 : Int32)))))
set_option maxHeartbeats 4000000 in
set_option maxRecDepth 20000 in
theorem o10_hasRoll {g : pG} {Qx : Option Value → pW → Prop} {Z : pZ} {I : (Nat → Nat → Int32)} {L : (Nat → Nat → Int64)} {O : (Nat → Nat → Option Nat)} {a0 : Nat} {x1 : Int32} {res : Int32} (d : Nat) (hW : WT Z O) (hZ0 : Z[a0]? = some (10, 5)) (h : f10_hasRoll I a0 x1 = some res) (hQ : (res = 0 ∨ res = 1) → Qx (some (.int res)) (Z, I, L, O)) : Ok g (d + 2, RX10, cX10_hasRoll, 2, false, 0, 0, Z.length, pSl Z) Qx 0 [(0, .ref a0), (1, .int x1)] [] (Z, I, L, O) := by
  unfold f10_hasRoll at h
  refine ok_iload_n dX10_hasRoll_0 1 rfl ?_
  refine ok_if_lt (t := 21) dX10_hasRoll_1 (by decide) (fun hc1 => ?_) (fun hc1 => ?_)
  · have h := (if_pos hc1).symm.trans h
    refine ok_iconst (v := 0) dX10_hasRoll_21 (by decide) ?_
    cases h
    exact ok_iret dX10_hasRoll_22 (hQ (Or.inl rfl))
  · have h := (if_neg hc1).symm.trans h
    refine ok_iload_n dX10_hasRoll_4 1 rfl ?_
    refine ok_aload_n dX10_hasRoll_5 0 rfl ?_
    refine ok_getI (ci := 10) (k := 3) dX10_hasRoll_6 flRX10_35 rfl hZ0 (by decide) ?_
    refine ok_icmp_ge (t := 21) dX10_hasRoll_9 (by decide) (fun hc2 => ?_) (fun hc2 => ?_)
    · have h := (if_pos hc2).symm.trans h
      refine ok_iconst (v := 0) dX10_hasRoll_21 (by decide) ?_
      cases h
      exact ok_iret dX10_hasRoll_22 (hQ (Or.inl rfl))
    · have h := (if_neg hc2).symm.trans h
      refine ok_iload_n dX10_hasRoll_12 1 rfl ?_
      refine ok_iconst (v := 5) dX10_hasRoll_13 (by decide) ?_
      refine ok_icmp_ge (t := 21) dX10_hasRoll_14 (by decide) (fun hc3 => ?_) (fun hc3 => ?_)
      · have h := (if_pos hc3).symm.trans h
        refine ok_iconst (v := 0) dX10_hasRoll_21 (by decide) ?_
        cases h
        exact ok_iret dX10_hasRoll_22 (hQ (Or.inl rfl))
      · have h := (if_neg hc3).symm.trans h
        refine ok_iconst (v := 1) dX10_hasRoll_17 (by decide) ?_
        refine ok_goto (t := 22) dX10_hasRoll_18 (by decide) ?_
        cases h
        exact ok_iret dX10_hasRoll_22 (hQ (Or.inr rfl))
theorem k10_hasRoll {g : pG} {Q : Option Value → pW → Prop} {Z : pZ} {I : (Nat → Nat → Int32)} {L : (Nat → Nat → Int64)} {O : (Nat → Nat → Option Nat)} {a0 : Nat} {x1 : Int32} {res : Int32} (d : Nat) (hW : WT Z O) (hZ0 : Z[a0]? = some (10, 5)) (h : f10_hasRoll I a0 x1 = some res) (hQ : Q (some (.int res)) (Z, I, L, O)) : CT g (d + 2) m10_hasRoll 0 0 [.ref a0, .int x1] (Z, I, L, O) Q :=
  ct_of_ok (mt := m10_hasRoll) (ini := false) mo10_hasRoll.2.2.2.2 (fun h => by cases h) (Nat.le_of_ble_eq_true rfl) (o10_hasRoll d hW hZ0 h (fun hb => ⟨hb, hQ, rfl, rfl⟩))
theorem dX10_hasPlace_0 : decode cX10_hasPlace 0 = .ok (.iload_n 1, 1) := by decide +kernel
theorem dX10_hasPlace_1 : decode cX10_hasPlace 1 = .ok (.ifCond .lt 40, 3) := by decide +kernel
theorem dX10_hasPlace_4 : decode cX10_hasPlace 4 = .ok (.iload_n 1, 1) := by decide +kernel
theorem dX10_hasPlace_5 : decode cX10_hasPlace 5 = .ok (.aload_n 0, 1) := by decide +kernel
theorem dX10_hasPlace_6 : decode cX10_hasPlace 6 = .ok (.getfield 35, 3) := by decide +kernel
theorem dX10_hasPlace_9 : decode cX10_hasPlace 9 = .ok (.if_icmp .ge 32, 3) := by decide +kernel
theorem dX10_hasPlace_12 : decode cX10_hasPlace 12 = .ok (.iload_n 1, 1) := by decide +kernel
theorem dX10_hasPlace_13 : decode cX10_hasPlace 13 = .ok (.iconst 5, 1) := by decide +kernel
theorem dX10_hasPlace_14 : decode cX10_hasPlace 14 = .ok (.if_icmp .ge 27, 3) := by decide +kernel
theorem dX10_hasPlace_17 : decode cX10_hasPlace 17 = .ok (.iload_n 2, 1) := by decide +kernel
theorem dX10_hasPlace_18 : decode cX10_hasPlace 18 = .ok (.ifCond .lt 23, 3) := by decide +kernel
theorem dX10_hasPlace_21 : decode cX10_hasPlace 21 = .ok (.iload_n 2, 1) := by decide +kernel
theorem dX10_hasPlace_22 : decode cX10_hasPlace 22 = .ok (.aload_n 0, 1) := by decide +kernel
theorem dX10_hasPlace_23 : decode cX10_hasPlace 23 = .ok (.getfield 9, 3) := by decide +kernel
theorem dX10_hasPlace_26 : decode cX10_hasPlace 26 = .ok (.iload_n 1, 1) := by decide +kernel
theorem dX10_hasPlace_27 : decode cX10_hasPlace 27 = .ok (.iaload, 1) := by decide +kernel
theorem dX10_hasPlace_28 : decode cX10_hasPlace 28 = .ok (.if_icmp .ge 13, 3) := by decide +kernel
theorem dX10_hasPlace_31 : decode cX10_hasPlace 31 = .ok (.iload_n 2, 1) := by decide +kernel
theorem dX10_hasPlace_32 : decode cX10_hasPlace 32 = .ok (.bipush 16, 2) := by decide +kernel
theorem dX10_hasPlace_34 : decode cX10_hasPlace 34 = .ok (.if_icmp .ge 7, 3) := by decide +kernel
theorem dX10_hasPlace_37 : decode cX10_hasPlace 37 = .ok (.iconst 1, 1) := by decide +kernel
theorem dX10_hasPlace_38 : decode cX10_hasPlace 38 = .ok (.goto 4, 3) := by decide +kernel
theorem dX10_hasPlace_41 : decode cX10_hasPlace 41 = .ok (.iconst 0, 1) := by decide +kernel
theorem dX10_hasPlace_42 : decode cX10_hasPlace 42 = .ok (.ireturn, 1) := by decide +kernel
def m10_hasPlace : pMT := (yX10_hasPlace, cX10_hasPlace, 3, some .boolean)
theorem mo10_hasPlace : mOK m10_hasPlace 2 := ⟨tb_i 405 (by decide +kernel), wi_RX10, ⟨wn_RX10.1, wn_RX10.2, by decide +kernel⟩, by decide, plainFor_of_name wp_RX10⟩
theorem mv10_hasPlace : mV m10_hasPlace := ⟨tb_i 403 (by decide +kernel), tb_i 404 (by decide +kernel)⟩
def f10_hasPlace (I : (Nat → Nat → Int32)) (O : (Nat → Nat → Option Nat)) (a0 : Nat) (x1 : Int32) (x2 : Int32) : Option (Int32) := (if x1 < 0 then some ((0 : Int32)) else (if (I a0 3) ≤ x1 then some ((0 : Int32)) else (if (5 : Int32) ≤ x1 then some ((0 : Int32)) else (if x2 < 0 then some ((0 : Int32)) else (if x1 < 0 ∨ 5 ≤ x1.toNatClampNeg then none else (if (I (rO O a0 0) x1.toNatClampNeg) ≤ x2 then some ((0 : Int32)) else (if (16 : Int32) ≤ x2 then some ((0 : Int32)) else some ((1 : Int32)))))))))
set_option maxHeartbeats 4000000 in
set_option maxRecDepth 20000 in
theorem o10_hasPlace {g : pG} {Qx : Option Value → pW → Prop} {Z : pZ} {I : (Nat → Nat → Int32)} {L : (Nat → Nat → Int64)} {O : (Nat → Nat → Option Nat)} {a0 : Nat} {x1 : Int32} {x2 : Int32} {res : Int32} (d : Nat) (hW : WT Z O) (hZ0 : Z[a0]? = some (10, 5)) (h : f10_hasPlace I O a0 x1 x2 = some res) (hQ : (res = 0 ∨ res = 1) → Qx (some (.int res)) (Z, I, L, O)) : Ok g (d + 2, RX10, cX10_hasPlace, 3, false, 0, 0, Z.length, pSl Z) Qx 0 [(0, .ref a0), (1, .int x1), (2, .int x2)] [] (Z, I, L, O) := by
  unfold f10_hasPlace at h
  refine ok_iload_n dX10_hasPlace_0 1 rfl ?_
  refine ok_if_lt (t := 41) dX10_hasPlace_1 (by decide) (fun hc1 => ?_) (fun hc1 => ?_)
  · have h := (if_pos hc1).symm.trans h
    refine ok_iconst (v := 0) dX10_hasPlace_41 (by decide) ?_
    cases h
    exact ok_iret dX10_hasPlace_42 (hQ (Or.inl rfl))
  · have h := (if_neg hc1).symm.trans h
    refine ok_iload_n dX10_hasPlace_4 1 rfl ?_
    refine ok_aload_n dX10_hasPlace_5 0 rfl ?_
    refine ok_getI (ci := 10) (k := 3) dX10_hasPlace_6 flRX10_35 rfl hZ0 (by decide) ?_
    refine ok_icmp_ge (t := 41) dX10_hasPlace_9 (by decide) (fun hc2 => ?_) (fun hc2 => ?_)
    · have h := (if_pos hc2).symm.trans h
      refine ok_iconst (v := 0) dX10_hasPlace_41 (by decide) ?_
      cases h
      exact ok_iret dX10_hasPlace_42 (hQ (Or.inl rfl))
    · have h := (if_neg hc2).symm.trans h
      refine ok_iload_n dX10_hasPlace_12 1 rfl ?_
      refine ok_iconst (v := 5) dX10_hasPlace_13 (by decide) ?_
      refine ok_icmp_ge (t := 41) dX10_hasPlace_14 (by decide) (fun hc3 => ?_) (fun hc3 => ?_)
      · have h := (if_pos hc3).symm.trans h
        refine ok_iconst (v := 0) dX10_hasPlace_41 (by decide) ?_
        cases h
        exact ok_iret dX10_hasPlace_42 (hQ (Or.inl rfl))
      · have h := (if_neg hc3).symm.trans h
        refine ok_iload_n dX10_hasPlace_17 2 rfl ?_
        refine ok_if_lt (t := 41) dX10_hasPlace_18 (by decide) (fun hc4 => ?_) (fun hc4 => ?_)
        · have h := (if_pos hc4).symm.trans h
          refine ok_iconst (v := 0) dX10_hasPlace_41 (by decide) ?_
          cases h
          exact ok_iret dX10_hasPlace_42 (hQ (Or.inl rfl))
        · have h := (if_neg hc4).symm.trans h
          refine ok_iload_n dX10_hasPlace_21 2 rfl ?_
          refine ok_aload_n dX10_hasPlace_22 0 rfl ?_
          have hT5 : Z[(rO O a0 0)]? = some (13, 5) := (wt_f (ci := 10) (k := 0) hW hZ0 rfl).2
          refine ok_getR (ci := 10) (k := 0) dX10_hasPlace_23 flRX10_9 rfl hW hZ0 (by decide) ?_
          refine ok_iload_n dX10_hasPlace_26 1 rfl ?_
          obtain ⟨hg6, h⟩ := gd h
          refine ok_iald2 (N := x1.toNatClampNeg) dX10_hasPlace_27 hT5 hg6 rfl ?_
          refine ok_icmp_ge (t := 41) dX10_hasPlace_28 (by decide) (fun hc7 => ?_) (fun hc7 => ?_)
          · have h := (if_pos hc7).symm.trans h
            refine ok_iconst (v := 0) dX10_hasPlace_41 (by decide) ?_
            cases h
            exact ok_iret dX10_hasPlace_42 (hQ (Or.inl rfl))
          · have h := (if_neg hc7).symm.trans h
            refine ok_iload_n dX10_hasPlace_31 2 rfl ?_
            refine ok_bipush (v := 16) dX10_hasPlace_32 (by decide) ?_
            refine ok_icmp_ge (t := 41) dX10_hasPlace_34 (by decide) (fun hc8 => ?_) (fun hc8 => ?_)
            · have h := (if_pos hc8).symm.trans h
              refine ok_iconst (v := 0) dX10_hasPlace_41 (by decide) ?_
              cases h
              exact ok_iret dX10_hasPlace_42 (hQ (Or.inl rfl))
            · have h := (if_neg hc8).symm.trans h
              refine ok_iconst (v := 1) dX10_hasPlace_37 (by decide) ?_
              refine ok_goto (t := 42) dX10_hasPlace_38 (by decide) ?_
              cases h
              exact ok_iret dX10_hasPlace_42 (hQ (Or.inr rfl))
theorem k10_hasPlace {g : pG} {Q : Option Value → pW → Prop} {Z : pZ} {I : (Nat → Nat → Int32)} {L : (Nat → Nat → Int64)} {O : (Nat → Nat → Option Nat)} {a0 : Nat} {x1 : Int32} {x2 : Int32} {res : Int32} (d : Nat) (hW : WT Z O) (hZ0 : Z[a0]? = some (10, 5)) (h : f10_hasPlace I O a0 x1 x2 = some res) (hQ : Q (some (.int res)) (Z, I, L, O)) : CT g (d + 2) m10_hasPlace 0 0 [.ref a0, .int x1, .int x2] (Z, I, L, O) Q :=
  ct_of_ok (mt := m10_hasPlace) (ini := false) mo10_hasPlace.2.2.2.2 (fun h => by cases h) (Nat.le_of_ble_eq_true rfl) (o10_hasPlace d hW hZ0 h (fun hb => ⟨hb, hQ, rfl, rfl⟩))
theorem dX10_hasChild_0 : decode cX10_hasChild 0 = .ok (.iload_n 1, 1) := by decide +kernel
theorem dX10_hasChild_1 : decode cX10_hasChild 1 = .ok (.ifCond .lt 20, 3) := by decide +kernel
theorem dX10_hasChild_4 : decode cX10_hasChild 4 = .ok (.iload_n 1, 1) := by decide +kernel
theorem dX10_hasChild_5 : decode cX10_hasChild 5 = .ok (.aload_n 0, 1) := by decide +kernel
theorem dX10_hasChild_6 : decode cX10_hasChild 6 = .ok (.getfield 39, 3) := by decide +kernel
theorem dX10_hasChild_9 : decode cX10_hasChild 9 = .ok (.if_icmp .ge 12, 3) := by decide +kernel
theorem dX10_hasChild_12 : decode cX10_hasChild 12 = .ok (.iload_n 1, 1) := by decide +kernel
theorem dX10_hasChild_13 : decode cX10_hasChild 13 = .ok (.iconst 4, 1) := by decide +kernel
theorem dX10_hasChild_14 : decode cX10_hasChild 14 = .ok (.if_icmp .ge 7, 3) := by decide +kernel
theorem dX10_hasChild_17 : decode cX10_hasChild 17 = .ok (.iconst 1, 1) := by decide +kernel
theorem dX10_hasChild_18 : decode cX10_hasChild 18 = .ok (.goto 4, 3) := by decide +kernel
theorem dX10_hasChild_21 : decode cX10_hasChild 21 = .ok (.iconst 0, 1) := by decide +kernel
theorem dX10_hasChild_22 : decode cX10_hasChild 22 = .ok (.ireturn, 1) := by decide +kernel
def m10_hasChild : pMT := (yX10_hasChild, cX10_hasChild, 2, some .boolean)
theorem mo10_hasChild : mOK m10_hasChild 1 := ⟨tb_i 668 (by decide +kernel), wi_RX10, ⟨wn_RX10.1, wn_RX10.2, by decide +kernel⟩, by decide, plainFor_of_name wp_RX10⟩
theorem mv10_hasChild : mV m10_hasChild := ⟨tb_i 666 (by decide +kernel), tb_i 667 (by decide +kernel)⟩
def f10_hasChild (I : (Nat → Nat → Int32)) (a0 : Nat) (x1 : Int32) : Option (Int32) := (if x1 < 0 then some ((0 : Int32)) else (if (I a0 4) ≤ x1 then some ((0 : Int32)) else (if (4 : Int32) ≤ x1 then some ((0 : Int32)) else some ((1 : Int32)))))
set_option maxHeartbeats 4000000 in
set_option maxRecDepth 20000 in
theorem o10_hasChild {g : pG} {Qx : Option Value → pW → Prop} {Z : pZ} {I : (Nat → Nat → Int32)} {L : (Nat → Nat → Int64)} {O : (Nat → Nat → Option Nat)} {a0 : Nat} {x1 : Int32} {res : Int32} (d : Nat) (hW : WT Z O) (hZ0 : Z[a0]? = some (10, 5)) (h : f10_hasChild I a0 x1 = some res) (hQ : (res = 0 ∨ res = 1) → Qx (some (.int res)) (Z, I, L, O)) : Ok g (d + 2, RX10, cX10_hasChild, 2, false, 0, 0, Z.length, pSl Z) Qx 0 [(0, .ref a0), (1, .int x1)] [] (Z, I, L, O) := by
  unfold f10_hasChild at h
  refine ok_iload_n dX10_hasChild_0 1 rfl ?_
  refine ok_if_lt (t := 21) dX10_hasChild_1 (by decide) (fun hc1 => ?_) (fun hc1 => ?_)
  · have h := (if_pos hc1).symm.trans h
    refine ok_iconst (v := 0) dX10_hasChild_21 (by decide) ?_
    cases h
    exact ok_iret dX10_hasChild_22 (hQ (Or.inl rfl))
  · have h := (if_neg hc1).symm.trans h
    refine ok_iload_n dX10_hasChild_4 1 rfl ?_
    refine ok_aload_n dX10_hasChild_5 0 rfl ?_
    refine ok_getI (ci := 10) (k := 4) dX10_hasChild_6 flRX10_39 rfl hZ0 (by decide) ?_
    refine ok_icmp_ge (t := 21) dX10_hasChild_9 (by decide) (fun hc2 => ?_) (fun hc2 => ?_)
    · have h := (if_pos hc2).symm.trans h
      refine ok_iconst (v := 0) dX10_hasChild_21 (by decide) ?_
      cases h
      exact ok_iret dX10_hasChild_22 (hQ (Or.inl rfl))
    · have h := (if_neg hc2).symm.trans h
      refine ok_iload_n dX10_hasChild_12 1 rfl ?_
      refine ok_iconst (v := 4) dX10_hasChild_13 (by decide) ?_
      refine ok_icmp_ge (t := 21) dX10_hasChild_14 (by decide) (fun hc3 => ?_) (fun hc3 => ?_)
      · have h := (if_pos hc3).symm.trans h
        refine ok_iconst (v := 0) dX10_hasChild_21 (by decide) ?_
        cases h
        exact ok_iret dX10_hasChild_22 (hQ (Or.inl rfl))
      · have h := (if_neg hc3).symm.trans h
        refine ok_iconst (v := 1) dX10_hasChild_17 (by decide) ?_
        refine ok_goto (t := 22) dX10_hasChild_18 (by decide) ?_
        cases h
        exact ok_iret dX10_hasChild_22 (hQ (Or.inr rfl))
theorem k10_hasChild {g : pG} {Q : Option Value → pW → Prop} {Z : pZ} {I : (Nat → Nat → Int32)} {L : (Nat → Nat → Int64)} {O : (Nat → Nat → Option Nat)} {a0 : Nat} {x1 : Int32} {res : Int32} (d : Nat) (hW : WT Z O) (hZ0 : Z[a0]? = some (10, 5)) (h : f10_hasChild I a0 x1 = some res) (hQ : Q (some (.int res)) (Z, I, L, O)) : CT g (d + 2) m10_hasChild 0 0 [.ref a0, .int x1] (Z, I, L, O) Q :=
  ct_of_ok (mt := m10_hasChild) (ini := false) mo10_hasChild.2.2.2.2 (fun h => by cases h) (Nat.le_of_ble_eq_true rfl) (o10_hasChild d hW hZ0 h (fun hb => ⟨hb, hQ, rfl, rfl⟩))
theorem dX10_size_0 : decode cX10_size 0 = .ok (.aload_n 0, 1) := by decide +kernel
theorem dX10_size_1 : decode cX10_size 1 = .ok (.iload_n 1, 1) := by decide +kernel
theorem dX10_size_2 : decode cX10_size 2 = .ok (.invokevirtual 42, 3) := by decide +kernel
theorem dX10_size_5 : decode cX10_size 5 = .ok (.ifCond .eq 12, 3) := by decide +kernel
theorem dX10_size_8 : decode cX10_size 8 = .ok (.aload_n 0, 1) := by decide +kernel
theorem dX10_size_9 : decode cX10_size 9 = .ok (.getfield 9, 3) := by decide +kernel
theorem dX10_size_12 : decode cX10_size 12 = .ok (.iload_n 1, 1) := by decide +kernel
theorem dX10_size_13 : decode cX10_size 13 = .ok (.iaload, 1) := by decide +kernel
theorem dX10_size_14 : decode cX10_size 14 = .ok (.goto 4, 3) := by decide +kernel
theorem dX10_size_17 : decode cX10_size 17 = .ok (.iconst 0, 1) := by decide +kernel
theorem dX10_size_18 : decode cX10_size 18 = .ok (.ireturn, 1) := by decide +kernel
def m10_size : pMT := (yX10_size, cX10_size, 2, some .int)
theorem mo10_size : mOK m10_size 1 := ⟨tb_i 702 (by decide +kernel), wi_RX10, ⟨wn_RX10.1, wn_RX10.2, by decide +kernel⟩, by decide, plainFor_of_name wp_RX10⟩
theorem mv10_size : mV m10_size := ⟨tb_i 700 (by decide +kernel), tb_i 701 (by decide +kernel)⟩
def f10_size (I : (Nat → Nat → Int32)) (O : (Nat → Nat → Option Nat)) (a0 : Nat) (x1 : Int32) : Option (Int32) := (f10_hasRoll I a0 x1).bind fun r1 => (if r1 = 0 then some ((0 : Int32)) else (if x1 < 0 ∨ 5 ≤ x1.toNatClampNeg then none else some ((I (rO O a0 0) x1.toNatClampNeg))))
set_option maxHeartbeats 4000000 in
set_option maxRecDepth 20000 in
theorem o10_size {g : pG} {Qx : Option Value → pW → Prop} {Z : pZ} {I : (Nat → Nat → Int32)} {L : (Nat → Nat → Int64)} {O : (Nat → Nat → Option Nat)} {a0 : Nat} {x1 : Int32} {res : Int32} (d : Nat) (hW : WT Z O) (hZ0 : Z[a0]? = some (10, 5)) (h : f10_size I O a0 x1 = some res) (hQ : Qx (some (.int res)) (Z, I, L, O)) : Ok g (d + 3, RX10, cX10_size, 2, false, 0, 0, Z.length, pSl Z) Qx 0 [(0, .ref a0), (1, .int x1)] [] (Z, I, L, O) := by
  unfold f10_size at h
  refine ok_aload_n dX10_size_0 0 rfl ?_
  refine ok_iload_n dX10_size_1 1 rfl ?_
  obtain ⟨r1, hr2, h⟩ := bd h
  refine ok_callV (d := ((d + 0) + 2)) (mt := m10_hasRoll) (mc := 0) (ms := 0) (As := [.int x1]) (r := []) dX10_size_2 mo10_hasRoll mv10_hasRoll lkRX10_42 rfl hZ0 (q := (RX10, TX10, 5)) rfl rfl rfl (Nat.le_of_ble_eq_true rfl) (by show _ + 1 ≤ d + _; omega) (Nat.le_refl _) (Nat.le_refl _) (pRt_mono ?_)
  refine k10_hasRoll (d + 0) hW hZ0 hr2 ?_
  intro hbr1
  show Ok g _ Qx 5 [(0, .ref a0), (1, .int x1)] [.int r1] (Z, I, L, O)
  refine ok_if_eq (t := 17) dX10_size_5 (by decide) (fun hc3 => ?_) (fun hc3 => ?_)
  · have h := (if_pos hc3).symm.trans h
    refine ok_iconst (v := 0) dX10_size_17 (by decide) ?_
    cases h
    exact ok_iret dX10_size_18 hQ
  · have h := (if_neg hc3).symm.trans h
    refine ok_aload_n dX10_size_8 0 rfl ?_
    have hT4 : Z[(rO O a0 0)]? = some (13, 5) := (wt_f (ci := 10) (k := 0) hW hZ0 rfl).2
    refine ok_getR (ci := 10) (k := 0) dX10_size_9 flRX10_9 rfl hW hZ0 (by decide) ?_
    refine ok_iload_n dX10_size_12 1 rfl ?_
    obtain ⟨hg5, h⟩ := gd h
    refine ok_iald2 (N := x1.toNatClampNeg) dX10_size_13 hT4 hg5 rfl ?_
    refine ok_goto (t := 18) dX10_size_14 (by decide) ?_
    cases h
    exact ok_iret dX10_size_18 hQ
theorem k10_size {g : pG} {Q : Option Value → pW → Prop} {Z : pZ} {I : (Nat → Nat → Int32)} {L : (Nat → Nat → Int64)} {O : (Nat → Nat → Option Nat)} {a0 : Nat} {x1 : Int32} {res : Int32} (d : Nat) (hW : WT Z O) (hZ0 : Z[a0]? = some (10, 5)) (h : f10_size I O a0 x1 = some res) (hQ : Q (some (.int res)) (Z, I, L, O)) : CT g (d + 3) m10_size 0 0 [.ref a0, .int x1] (Z, I, L, O) Q :=
  ct_of_ok (mt := m10_size) (ini := false) mo10_size.2.2.2.2 (fun h => by cases h) (Nat.le_of_ble_eq_true rfl) (o10_size d hW hZ0 h ⟨trivial, hQ, rfl, rfl⟩)
theorem dX10_keyAt_0 : decode cX10_keyAt 0 = .ok (.aload_n 0, 1) := by decide +kernel
theorem dX10_keyAt_1 : decode cX10_keyAt 1 = .ok (.iload_n 1, 1) := by decide +kernel
theorem dX10_keyAt_2 : decode cX10_keyAt 2 = .ok (.iload_n 2, 1) := by decide +kernel
theorem dX10_keyAt_3 : decode cX10_keyAt 3 = .ok (.invokevirtual 46, 3) := by decide +kernel
theorem dX10_keyAt_6 : decode cX10_keyAt 6 = .ok (.ifCond .eq 17, 3) := by decide +kernel
theorem dX10_keyAt_9 : decode cX10_keyAt 9 = .ok (.aload_n 0, 1) := by decide +kernel
theorem dX10_keyAt_10 : decode cX10_keyAt 10 = .ok (.getfield 15, 3) := by decide +kernel
theorem dX10_keyAt_13 : decode cX10_keyAt 13 = .ok (.iload_n 1, 1) := by decide +kernel
theorem dX10_keyAt_14 : decode cX10_keyAt 14 = .ok (.bipush 16, 2) := by decide +kernel
theorem dX10_keyAt_16 : decode cX10_keyAt 16 = .ok (.imul, 1) := by decide +kernel
theorem dX10_keyAt_17 : decode cX10_keyAt 17 = .ok (.iload_n 2, 1) := by decide +kernel
theorem dX10_keyAt_18 : decode cX10_keyAt 18 = .ok (.iadd, 1) := by decide +kernel
theorem dX10_keyAt_19 : decode cX10_keyAt 19 = .ok (.iaload, 1) := by decide +kernel
theorem dX10_keyAt_20 : decode cX10_keyAt 20 = .ok (.goto 4, 3) := by decide +kernel
theorem dX10_keyAt_23 : decode cX10_keyAt 23 = .ok (.iconst 0, 1) := by decide +kernel
theorem dX10_keyAt_24 : decode cX10_keyAt 24 = .ok (.ireturn, 1) := by decide +kernel
def m10_keyAt : pMT := (yX10_keyAt, cX10_keyAt, 3, some .int)
theorem mo10_keyAt : mOK m10_keyAt 2 := ⟨tb_i 721 (by decide +kernel), wi_RX10, ⟨wn_RX10.1, wn_RX10.2, by decide +kernel⟩, by decide, plainFor_of_name wp_RX10⟩
theorem mv10_keyAt : mV m10_keyAt := ⟨tb_i 719 (by decide +kernel), tb_i 720 (by decide +kernel)⟩
def f10_keyAt (I : (Nat → Nat → Int32)) (O : (Nat → Nat → Option Nat)) (a0 : Nat) (x1 : Int32) (x2 : Int32) : Option (Int32) := (f10_hasPlace I O a0 x1 x2).bind fun r1 => (if r1 = 0 then some ((0 : Int32)) else (if ((x1 * 16) + x2) < 0 ∨ 80 ≤ ((x1 * 16) + x2).toNatClampNeg then none else some ((I (rO O a0 1) ((x1 * 16) + x2).toNatClampNeg))))
set_option maxHeartbeats 4000000 in
set_option maxRecDepth 20000 in
theorem o10_keyAt {g : pG} {Qx : Option Value → pW → Prop} {Z : pZ} {I : (Nat → Nat → Int32)} {L : (Nat → Nat → Int64)} {O : (Nat → Nat → Option Nat)} {a0 : Nat} {x1 : Int32} {x2 : Int32} {res : Int32} (d : Nat) (hW : WT Z O) (hZ0 : Z[a0]? = some (10, 5)) (h : f10_keyAt I O a0 x1 x2 = some res) (hQ : Qx (some (.int res)) (Z, I, L, O)) : Ok g (d + 3, RX10, cX10_keyAt, 3, false, 0, 0, Z.length, pSl Z) Qx 0 [(0, .ref a0), (1, .int x1), (2, .int x2)] [] (Z, I, L, O) := by
  unfold f10_keyAt at h
  refine ok_aload_n dX10_keyAt_0 0 rfl ?_
  refine ok_iload_n dX10_keyAt_1 1 rfl ?_
  refine ok_iload_n dX10_keyAt_2 2 rfl ?_
  obtain ⟨r1, hr2, h⟩ := bd h
  refine ok_callV (d := ((d + 0) + 2)) (mt := m10_hasPlace) (mc := 0) (ms := 0) (As := [.int x1, .int x2]) (r := []) dX10_keyAt_3 mo10_hasPlace mv10_hasPlace lkRX10_46 rfl hZ0 (q := (RX10, TX10, 5)) rfl rfl rfl (Nat.le_of_ble_eq_true rfl) (by show _ + 1 ≤ d + _; omega) (Nat.le_refl _) (Nat.le_refl _) (pRt_mono ?_)
  refine k10_hasPlace (d + 0) hW hZ0 hr2 ?_
  intro hbr1
  show Ok g _ Qx 6 [(0, .ref a0), (1, .int x1), (2, .int x2)] [.int r1] (Z, I, L, O)
  refine ok_if_eq (t := 23) dX10_keyAt_6 (by decide) (fun hc3 => ?_) (fun hc3 => ?_)
  · have h := (if_pos hc3).symm.trans h
    refine ok_iconst (v := 0) dX10_keyAt_23 (by decide) ?_
    cases h
    exact ok_iret dX10_keyAt_24 hQ
  · have h := (if_neg hc3).symm.trans h
    refine ok_aload_n dX10_keyAt_9 0 rfl ?_
    have hT4 : Z[(rO O a0 1)]? = some (13, 80) := (wt_f (ci := 10) (k := 1) hW hZ0 rfl).2
    refine ok_getR (ci := 10) (k := 1) dX10_keyAt_10 flRX10_15 rfl hW hZ0 (by decide) ?_
    refine ok_iload_n dX10_keyAt_13 1 rfl ?_
    refine ok_bipush (v := 16) dX10_keyAt_14 (by decide) ?_
    refine ok_imul dX10_keyAt_16 ?_
    refine ok_iload_n dX10_keyAt_17 2 rfl ?_
    refine ok_iadd dX10_keyAt_18 ?_
    obtain ⟨hg5, h⟩ := gd h
    refine ok_iald2 (N := ((x1 * 16) + x2).toNatClampNeg) dX10_keyAt_19 hT4 hg5 rfl ?_
    refine ok_goto (t := 24) dX10_keyAt_20 (by decide) ?_
    cases h
    exact ok_iret dX10_keyAt_24 hQ
theorem k10_keyAt {g : pG} {Q : Option Value → pW → Prop} {Z : pZ} {I : (Nat → Nat → Int32)} {L : (Nat → Nat → Int64)} {O : (Nat → Nat → Option Nat)} {a0 : Nat} {x1 : Int32} {x2 : Int32} {res : Int32} (d : Nat) (hW : WT Z O) (hZ0 : Z[a0]? = some (10, 5)) (h : f10_keyAt I O a0 x1 x2 = some res) (hQ : Q (some (.int res)) (Z, I, L, O)) : CT g (d + 3) m10_keyAt 0 0 [.ref a0, .int x1, .int x2] (Z, I, L, O) Q :=
  ct_of_ok (mt := m10_keyAt) (ini := false) mo10_keyAt.2.2.2.2 (fun h => by cases h) (Nat.le_of_ble_eq_true rfl) (o10_keyAt d hW hZ0 h ⟨trivial, hQ, rfl, rfl⟩)
theorem dX10_wearAt_0 : decode cX10_wearAt 0 = .ok (.aload_n 0, 1) := by decide +kernel
theorem dX10_wearAt_1 : decode cX10_wearAt 1 = .ok (.iload_n 1, 1) := by decide +kernel
theorem dX10_wearAt_2 : decode cX10_wearAt 2 = .ok (.iload_n 2, 1) := by decide +kernel
theorem dX10_wearAt_3 : decode cX10_wearAt 3 = .ok (.invokevirtual 46, 3) := by decide +kernel
theorem dX10_wearAt_6 : decode cX10_wearAt 6 = .ok (.ifCond .eq 20, 3) := by decide +kernel
theorem dX10_wearAt_9 : decode cX10_wearAt 9 = .ok (.aload_n 0, 1) := by decide +kernel
theorem dX10_wearAt_10 : decode cX10_wearAt 10 = .ok (.getfield 21, 3) := by decide +kernel
theorem dX10_wearAt_13 : decode cX10_wearAt 13 = .ok (.getfield 50, 3) := by decide +kernel
theorem dX10_wearAt_16 : decode cX10_wearAt 16 = .ok (.iload_n 1, 1) := by decide +kernel
theorem dX10_wearAt_17 : decode cX10_wearAt 17 = .ok (.bipush 16, 2) := by decide +kernel
theorem dX10_wearAt_19 : decode cX10_wearAt 19 = .ok (.imul, 1) := by decide +kernel
theorem dX10_wearAt_20 : decode cX10_wearAt 20 = .ok (.iload_n 2, 1) := by decide +kernel
theorem dX10_wearAt_21 : decode cX10_wearAt 21 = .ok (.iadd, 1) := by decide +kernel
theorem dX10_wearAt_22 : decode cX10_wearAt 22 = .ok (.iaload, 1) := by decide +kernel
theorem dX10_wearAt_23 : decode cX10_wearAt 23 = .ok (.goto 4, 3) := by decide +kernel
theorem dX10_wearAt_26 : decode cX10_wearAt 26 = .ok (.iconst 0, 1) := by decide +kernel
theorem dX10_wearAt_27 : decode cX10_wearAt 27 = .ok (.ireturn, 1) := by decide +kernel
def m10_wearAt : pMT := (yX10_wearAt, cX10_wearAt, 3, some .int)
theorem mo10_wearAt : mOK m10_wearAt 2 := ⟨tb_i 716 (by decide +kernel), wi_RX10, ⟨wn_RX10.1, wn_RX10.2, by decide +kernel⟩, by decide, plainFor_of_name wp_RX10⟩
theorem mv10_wearAt : mV m10_wearAt := ⟨tb_i 714 (by decide +kernel), tb_i 715 (by decide +kernel)⟩
def f10_wearAt (I : (Nat → Nat → Int32)) (O : (Nat → Nat → Option Nat)) (a0 : Nat) (x1 : Int32) (x2 : Int32) : Option (Int32) := (f10_hasPlace I O a0 x1 x2).bind fun r1 => (if r1 = 0 then some ((0 : Int32)) else (if ((x1 * 16) + x2) < 0 ∨ 80 ≤ ((x1 * 16) + x2).toNatClampNeg then none else some ((I (rO O (rO O a0 2) 0) ((x1 * 16) + x2).toNatClampNeg))))
set_option maxHeartbeats 4000000 in
set_option maxRecDepth 20000 in
theorem o10_wearAt {g : pG} {Qx : Option Value → pW → Prop} {Z : pZ} {I : (Nat → Nat → Int32)} {L : (Nat → Nat → Int64)} {O : (Nat → Nat → Option Nat)} {a0 : Nat} {x1 : Int32} {x2 : Int32} {res : Int32} (d : Nat) (hW : WT Z O) (hZ0 : Z[a0]? = some (10, 5)) (h : f10_wearAt I O a0 x1 x2 = some res) (hQ : Qx (some (.int res)) (Z, I, L, O)) : Ok g (d + 3, RX10, cX10_wearAt, 3, false, 0, 0, Z.length, pSl Z) Qx 0 [(0, .ref a0), (1, .int x1), (2, .int x2)] [] (Z, I, L, O) := by
  unfold f10_wearAt at h
  refine ok_aload_n dX10_wearAt_0 0 rfl ?_
  refine ok_iload_n dX10_wearAt_1 1 rfl ?_
  refine ok_iload_n dX10_wearAt_2 2 rfl ?_
  obtain ⟨r1, hr2, h⟩ := bd h
  refine ok_callV (d := ((d + 0) + 2)) (mt := m10_hasPlace) (mc := 0) (ms := 0) (As := [.int x1, .int x2]) (r := []) dX10_wearAt_3 mo10_hasPlace mv10_hasPlace lkRX10_46 rfl hZ0 (q := (RX10, TX10, 5)) rfl rfl rfl (Nat.le_of_ble_eq_true rfl) (by show _ + 1 ≤ d + _; omega) (Nat.le_refl _) (Nat.le_refl _) (pRt_mono ?_)
  refine k10_hasPlace (d + 0) hW hZ0 hr2 ?_
  intro hbr1
  show Ok g _ Qx 6 [(0, .ref a0), (1, .int x1), (2, .int x2)] [.int r1] (Z, I, L, O)
  refine ok_if_eq (t := 26) dX10_wearAt_6 (by decide) (fun hc3 => ?_) (fun hc3 => ?_)
  · have h := (if_pos hc3).symm.trans h
    refine ok_iconst (v := 0) dX10_wearAt_26 (by decide) ?_
    cases h
    exact ok_iret dX10_wearAt_27 hQ
  · have h := (if_neg hc3).symm.trans h
    refine ok_aload_n dX10_wearAt_9 0 rfl ?_
    have hT4 : Z[(rO O a0 2)]? = some (3, 6) := (wt_f (ci := 10) (k := 2) hW hZ0 rfl).2
    refine ok_getR (ci := 10) (k := 2) dX10_wearAt_10 flRX10_21 rfl hW hZ0 (by decide) ?_
    have hT5 : Z[(rO O (rO O a0 2) 0)]? = some (13, 80) := (wt_f (ci := 3) (k := 0) hW hT4 rfl).2
    refine ok_getR (ci := 3) (k := 0) dX10_wearAt_13 flRX10_50 rfl hW hT4 (by decide) ?_
    refine ok_iload_n dX10_wearAt_16 1 rfl ?_
    refine ok_bipush (v := 16) dX10_wearAt_17 (by decide) ?_
    refine ok_imul dX10_wearAt_19 ?_
    refine ok_iload_n dX10_wearAt_20 2 rfl ?_
    refine ok_iadd dX10_wearAt_21 ?_
    obtain ⟨hg6, h⟩ := gd h
    refine ok_iald2 (N := ((x1 * 16) + x2).toNatClampNeg) dX10_wearAt_22 hT5 hg6 rfl ?_
    refine ok_goto (t := 27) dX10_wearAt_23 (by decide) ?_
    cases h
    exact ok_iret dX10_wearAt_27 hQ
theorem k10_wearAt {g : pG} {Q : Option Value → pW → Prop} {Z : pZ} {I : (Nat → Nat → Int32)} {L : (Nat → Nat → Int64)} {O : (Nat → Nat → Option Nat)} {a0 : Nat} {x1 : Int32} {x2 : Int32} {res : Int32} (d : Nat) (hW : WT Z O) (hZ0 : Z[a0]? = some (10, 5)) (h : f10_wearAt I O a0 x1 x2 = some res) (hQ : Q (some (.int res)) (Z, I, L, O)) : CT g (d + 3) m10_wearAt 0 0 [.ref a0, .int x1, .int x2] (Z, I, L, O) Q :=
  ct_of_ok (mt := m10_wearAt) (ini := false) mo10_wearAt.2.2.2.2 (fun h => by cases h) (Nat.le_of_ble_eq_true rfl) (o10_wearAt d hW hZ0 h ⟨trivial, hQ, rfl, rfl⟩)
theorem dX10_isTorn_0 : decode cX10_isTorn 0 = .ok (.aload_n 0, 1) := by decide +kernel
theorem dX10_isTorn_1 : decode cX10_isTorn 1 = .ok (.iload_n 1, 1) := by decide +kernel
theorem dX10_isTorn_2 : decode cX10_isTorn 2 = .ok (.iload_n 2, 1) := by decide +kernel
theorem dX10_isTorn_3 : decode cX10_isTorn 3 = .ok (.invokevirtual 46, 3) := by decide +kernel
theorem dX10_isTorn_6 : decode cX10_isTorn 6 = .ok (.ifCond .eq 26, 3) := by decide +kernel
theorem dX10_isTorn_9 : decode cX10_isTorn 9 = .ok (.aload_n 0, 1) := by decide +kernel
theorem dX10_isTorn_10 : decode cX10_isTorn 10 = .ok (.getfield 21, 3) := by decide +kernel
theorem dX10_isTorn_13 : decode cX10_isTorn 13 = .ok (.getfield 50, 3) := by decide +kernel
theorem dX10_isTorn_16 : decode cX10_isTorn 16 = .ok (.iload_n 1, 1) := by decide +kernel
theorem dX10_isTorn_17 : decode cX10_isTorn 17 = .ok (.bipush 16, 2) := by decide +kernel
theorem dX10_isTorn_19 : decode cX10_isTorn 19 = .ok (.imul, 1) := by decide +kernel
theorem dX10_isTorn_20 : decode cX10_isTorn 20 = .ok (.iload_n 2, 1) := by decide +kernel
theorem dX10_isTorn_21 : decode cX10_isTorn 21 = .ok (.iadd, 1) := by decide +kernel
theorem dX10_isTorn_22 : decode cX10_isTorn 22 = .ok (.iaload, 1) := by decide +kernel
theorem dX10_isTorn_23 : decode cX10_isTorn 23 = .ok (.bipush 9, 2) := by decide +kernel
theorem dX10_isTorn_25 : decode cX10_isTorn 25 = .ok (.if_icmp .lt 7, 3) := by decide +kernel
theorem dX10_isTorn_28 : decode cX10_isTorn 28 = .ok (.iconst 1, 1) := by decide +kernel
theorem dX10_isTorn_29 : decode cX10_isTorn 29 = .ok (.goto 4, 3) := by decide +kernel
theorem dX10_isTorn_32 : decode cX10_isTorn 32 = .ok (.iconst 0, 1) := by decide +kernel
theorem dX10_isTorn_33 : decode cX10_isTorn 33 = .ok (.ireturn, 1) := by decide +kernel
def m10_isTorn : pMT := (yX10_isTorn, cX10_isTorn, 3, some .boolean)
theorem mo10_isTorn : mOK m10_isTorn 2 := ⟨tb_i 941 (by decide +kernel), wi_RX10, ⟨wn_RX10.1, wn_RX10.2, by decide +kernel⟩, by decide, plainFor_of_name wp_RX10⟩
theorem mv10_isTorn : mV m10_isTorn := ⟨tb_i 939 (by decide +kernel), tb_i 940 (by decide +kernel)⟩
def f10_isTorn (I : (Nat → Nat → Int32)) (O : (Nat → Nat → Option Nat)) (a0 : Nat) (x1 : Int32) (x2 : Int32) : Option (Int32) := (f10_hasPlace I O a0 x1 x2).bind fun r1 => (if r1 = 0 then some ((0 : Int32)) else (if ((x1 * 16) + x2) < 0 ∨ 80 ≤ ((x1 * 16) + x2).toNatClampNeg then none else (if (I (rO O (rO O a0 2) 0) ((x1 * 16) + x2).toNatClampNeg) < (9 : Int32) then some ((0 : Int32)) else some ((1 : Int32)))))
set_option maxHeartbeats 4000000 in
set_option maxRecDepth 20000 in
theorem o10_isTorn {g : pG} {Qx : Option Value → pW → Prop} {Z : pZ} {I : (Nat → Nat → Int32)} {L : (Nat → Nat → Int64)} {O : (Nat → Nat → Option Nat)} {a0 : Nat} {x1 : Int32} {x2 : Int32} {res : Int32} (d : Nat) (hW : WT Z O) (hZ0 : Z[a0]? = some (10, 5)) (h : f10_isTorn I O a0 x1 x2 = some res) (hQ : (res = 0 ∨ res = 1) → Qx (some (.int res)) (Z, I, L, O)) : Ok g (d + 3, RX10, cX10_isTorn, 3, false, 0, 0, Z.length, pSl Z) Qx 0 [(0, .ref a0), (1, .int x1), (2, .int x2)] [] (Z, I, L, O) := by
  unfold f10_isTorn at h
  refine ok_aload_n dX10_isTorn_0 0 rfl ?_
  refine ok_iload_n dX10_isTorn_1 1 rfl ?_
  refine ok_iload_n dX10_isTorn_2 2 rfl ?_
  obtain ⟨r1, hr2, h⟩ := bd h
  refine ok_callV (d := ((d + 0) + 2)) (mt := m10_hasPlace) (mc := 0) (ms := 0) (As := [.int x1, .int x2]) (r := []) dX10_isTorn_3 mo10_hasPlace mv10_hasPlace lkRX10_46 rfl hZ0 (q := (RX10, TX10, 5)) rfl rfl rfl (Nat.le_of_ble_eq_true rfl) (by show _ + 1 ≤ d + _; omega) (Nat.le_refl _) (Nat.le_refl _) (pRt_mono ?_)
  refine k10_hasPlace (d + 0) hW hZ0 hr2 ?_
  intro hbr1
  show Ok g _ Qx 6 [(0, .ref a0), (1, .int x1), (2, .int x2)] [.int r1] (Z, I, L, O)
  refine ok_if_eq (t := 32) dX10_isTorn_6 (by decide) (fun hc3 => ?_) (fun hc3 => ?_)
  · have h := (if_pos hc3).symm.trans h
    refine ok_iconst (v := 0) dX10_isTorn_32 (by decide) ?_
    cases h
    exact ok_iret dX10_isTorn_33 (hQ (Or.inl rfl))
  · have h := (if_neg hc3).symm.trans h
    refine ok_aload_n dX10_isTorn_9 0 rfl ?_
    have hT4 : Z[(rO O a0 2)]? = some (3, 6) := (wt_f (ci := 10) (k := 2) hW hZ0 rfl).2
    refine ok_getR (ci := 10) (k := 2) dX10_isTorn_10 flRX10_21 rfl hW hZ0 (by decide) ?_
    have hT5 : Z[(rO O (rO O a0 2) 0)]? = some (13, 80) := (wt_f (ci := 3) (k := 0) hW hT4 rfl).2
    refine ok_getR (ci := 3) (k := 0) dX10_isTorn_13 flRX10_50 rfl hW hT4 (by decide) ?_
    refine ok_iload_n dX10_isTorn_16 1 rfl ?_
    refine ok_bipush (v := 16) dX10_isTorn_17 (by decide) ?_
    refine ok_imul dX10_isTorn_19 ?_
    refine ok_iload_n dX10_isTorn_20 2 rfl ?_
    refine ok_iadd dX10_isTorn_21 ?_
    obtain ⟨hg6, h⟩ := gd h
    refine ok_iald2 (N := ((x1 * 16) + x2).toNatClampNeg) dX10_isTorn_22 hT5 hg6 rfl ?_
    refine ok_bipush (v := 9) dX10_isTorn_23 (by decide) ?_
    refine ok_icmp_lt (t := 32) dX10_isTorn_25 (by decide) (fun hc7 => ?_) (fun hc7 => ?_)
    · have h := (if_pos hc7).symm.trans h
      refine ok_iconst (v := 0) dX10_isTorn_32 (by decide) ?_
      cases h
      exact ok_iret dX10_isTorn_33 (hQ (Or.inl rfl))
    · have h := (if_neg hc7).symm.trans h
      refine ok_iconst (v := 1) dX10_isTorn_28 (by decide) ?_
      refine ok_goto (t := 33) dX10_isTorn_29 (by decide) ?_
      cases h
      exact ok_iret dX10_isTorn_33 (hQ (Or.inr rfl))
theorem k10_isTorn {g : pG} {Q : Option Value → pW → Prop} {Z : pZ} {I : (Nat → Nat → Int32)} {L : (Nat → Nat → Int64)} {O : (Nat → Nat → Option Nat)} {a0 : Nat} {x1 : Int32} {x2 : Int32} {res : Int32} (d : Nat) (hW : WT Z O) (hZ0 : Z[a0]? = some (10, 5)) (h : f10_isTorn I O a0 x1 x2 = some res) (hQ : Q (some (.int res)) (Z, I, L, O)) : CT g (d + 3) m10_isTorn 0 0 [.ref a0, .int x1, .int x2] (Z, I, L, O) Q :=
  ct_of_ok (mt := m10_isTorn) (ini := false) mo10_isTorn.2.2.2.2 (fun h => by cases h) (Nat.le_of_ble_eq_true rfl) (o10_isTorn d hW hZ0 h (fun hb => ⟨hb, hQ, rfl, rfl⟩))
theorem dX10_sounds_0 : decode cX10_sounds 0 = .ok (.aload_n 0, 1) := by decide +kernel
theorem dX10_sounds_1 : decode cX10_sounds 1 = .ok (.iload_n 1, 1) := by decide +kernel
theorem dX10_sounds_2 : decode cX10_sounds 2 = .ok (.iload_n 2, 1) := by decide +kernel
theorem dX10_sounds_3 : decode cX10_sounds 3 = .ok (.invokevirtual 46, 3) := by decide +kernel
theorem dX10_sounds_6 : decode cX10_sounds 6 = .ok (.ifCond .eq 40, 3) := by decide +kernel
theorem dX10_sounds_9 : decode cX10_sounds 9 = .ok (.aload_n 0, 1) := by decide +kernel
theorem dX10_sounds_10 : decode cX10_sounds 10 = .ok (.getfield 15, 3) := by decide +kernel
theorem dX10_sounds_13 : decode cX10_sounds 13 = .ok (.iload_n 1, 1) := by decide +kernel
theorem dX10_sounds_14 : decode cX10_sounds 14 = .ok (.bipush 16, 2) := by decide +kernel
theorem dX10_sounds_16 : decode cX10_sounds 16 = .ok (.imul, 1) := by decide +kernel
theorem dX10_sounds_17 : decode cX10_sounds 17 = .ok (.iload_n 2, 1) := by decide +kernel
theorem dX10_sounds_18 : decode cX10_sounds 18 = .ok (.iadd, 1) := by decide +kernel
theorem dX10_sounds_19 : decode cX10_sounds 19 = .ok (.iaload, 1) := by decide +kernel
theorem dX10_sounds_20 : decode cX10_sounds 20 = .ok (.ifCond .eq 26, 3) := by decide +kernel
theorem dX10_sounds_23 : decode cX10_sounds 23 = .ok (.aload_n 0, 1) := by decide +kernel
theorem dX10_sounds_24 : decode cX10_sounds 24 = .ok (.getfield 21, 3) := by decide +kernel
theorem dX10_sounds_27 : decode cX10_sounds 27 = .ok (.getfield 50, 3) := by decide +kernel
theorem dX10_sounds_30 : decode cX10_sounds 30 = .ok (.iload_n 1, 1) := by decide +kernel
theorem dX10_sounds_31 : decode cX10_sounds 31 = .ok (.bipush 16, 2) := by decide +kernel
theorem dX10_sounds_33 : decode cX10_sounds 33 = .ok (.imul, 1) := by decide +kernel
theorem dX10_sounds_34 : decode cX10_sounds 34 = .ok (.iload_n 2, 1) := by decide +kernel
theorem dX10_sounds_35 : decode cX10_sounds 35 = .ok (.iadd, 1) := by decide +kernel
theorem dX10_sounds_36 : decode cX10_sounds 36 = .ok (.iaload, 1) := by decide +kernel
theorem dX10_sounds_37 : decode cX10_sounds 37 = .ok (.bipush 9, 2) := by decide +kernel
theorem dX10_sounds_39 : decode cX10_sounds 39 = .ok (.if_icmp .ge 7, 3) := by decide +kernel
theorem dX10_sounds_42 : decode cX10_sounds 42 = .ok (.iconst 1, 1) := by decide +kernel
theorem dX10_sounds_43 : decode cX10_sounds 43 = .ok (.goto 4, 3) := by decide +kernel
theorem dX10_sounds_46 : decode cX10_sounds 46 = .ok (.iconst 0, 1) := by decide +kernel
theorem dX10_sounds_47 : decode cX10_sounds 47 = .ok (.ireturn, 1) := by decide +kernel
def m10_sounds : pMT := (yX10_sounds, cX10_sounds, 3, some .boolean)
theorem mo10_sounds : mOK m10_sounds 2 := ⟨tb_i 707 (by decide +kernel), wi_RX10, ⟨wn_RX10.1, wn_RX10.2, by decide +kernel⟩, by decide, plainFor_of_name wp_RX10⟩
theorem mv10_sounds : mV m10_sounds := ⟨tb_i 705 (by decide +kernel), tb_i 706 (by decide +kernel)⟩
def f10_sounds (I : (Nat → Nat → Int32)) (O : (Nat → Nat → Option Nat)) (a0 : Nat) (x1 : Int32) (x2 : Int32) : Option (Int32) := (f10_hasPlace I O a0 x1 x2).bind fun r1 => (if r1 = 0 then some ((0 : Int32)) else (if ((x1 * 16) + x2) < 0 ∨ 80 ≤ ((x1 * 16) + x2).toNatClampNeg then none else (if (I (rO O a0 1) ((x1 * 16) + x2).toNatClampNeg) = 0 then some ((0 : Int32)) else (if ((x1 * 16) + x2) < 0 ∨ 80 ≤ ((x1 * 16) + x2).toNatClampNeg then none else (if (9 : Int32) ≤ (I (rO O (rO O a0 2) 0) ((x1 * 16) + x2).toNatClampNeg) then some ((0 : Int32)) else some ((1 : Int32)))))))
set_option maxHeartbeats 4000000 in
set_option maxRecDepth 20000 in
theorem o10_sounds {g : pG} {Qx : Option Value → pW → Prop} {Z : pZ} {I : (Nat → Nat → Int32)} {L : (Nat → Nat → Int64)} {O : (Nat → Nat → Option Nat)} {a0 : Nat} {x1 : Int32} {x2 : Int32} {res : Int32} (d : Nat) (hW : WT Z O) (hZ0 : Z[a0]? = some (10, 5)) (h : f10_sounds I O a0 x1 x2 = some res) (hQ : (res = 0 ∨ res = 1) → Qx (some (.int res)) (Z, I, L, O)) : Ok g (d + 3, RX10, cX10_sounds, 3, false, 0, 0, Z.length, pSl Z) Qx 0 [(0, .ref a0), (1, .int x1), (2, .int x2)] [] (Z, I, L, O) := by
  unfold f10_sounds at h
  refine ok_aload_n dX10_sounds_0 0 rfl ?_
  refine ok_iload_n dX10_sounds_1 1 rfl ?_
  refine ok_iload_n dX10_sounds_2 2 rfl ?_
  obtain ⟨r1, hr2, h⟩ := bd h
  refine ok_callV (d := ((d + 0) + 2)) (mt := m10_hasPlace) (mc := 0) (ms := 0) (As := [.int x1, .int x2]) (r := []) dX10_sounds_3 mo10_hasPlace mv10_hasPlace lkRX10_46 rfl hZ0 (q := (RX10, TX10, 5)) rfl rfl rfl (Nat.le_of_ble_eq_true rfl) (by show _ + 1 ≤ d + _; omega) (Nat.le_refl _) (Nat.le_refl _) (pRt_mono ?_)
  refine k10_hasPlace (d + 0) hW hZ0 hr2 ?_
  intro hbr1
  show Ok g _ Qx 6 [(0, .ref a0), (1, .int x1), (2, .int x2)] [.int r1] (Z, I, L, O)
  refine ok_if_eq (t := 46) dX10_sounds_6 (by decide) (fun hc3 => ?_) (fun hc3 => ?_)
  · have h := (if_pos hc3).symm.trans h
    refine ok_iconst (v := 0) dX10_sounds_46 (by decide) ?_
    cases h
    exact ok_iret dX10_sounds_47 (hQ (Or.inl rfl))
  · have h := (if_neg hc3).symm.trans h
    refine ok_aload_n dX10_sounds_9 0 rfl ?_
    have hT4 : Z[(rO O a0 1)]? = some (13, 80) := (wt_f (ci := 10) (k := 1) hW hZ0 rfl).2
    refine ok_getR (ci := 10) (k := 1) dX10_sounds_10 flRX10_15 rfl hW hZ0 (by decide) ?_
    refine ok_iload_n dX10_sounds_13 1 rfl ?_
    refine ok_bipush (v := 16) dX10_sounds_14 (by decide) ?_
    refine ok_imul dX10_sounds_16 ?_
    refine ok_iload_n dX10_sounds_17 2 rfl ?_
    refine ok_iadd dX10_sounds_18 ?_
    obtain ⟨hg5, h⟩ := gd h
    refine ok_iald2 (N := ((x1 * 16) + x2).toNatClampNeg) dX10_sounds_19 hT4 hg5 rfl ?_
    refine ok_if_eq (t := 46) dX10_sounds_20 (by decide) (fun hc6 => ?_) (fun hc6 => ?_)
    · have h := (if_pos hc6).symm.trans h
      refine ok_iconst (v := 0) dX10_sounds_46 (by decide) ?_
      cases h
      exact ok_iret dX10_sounds_47 (hQ (Or.inl rfl))
    · have h := (if_neg hc6).symm.trans h
      refine ok_aload_n dX10_sounds_23 0 rfl ?_
      have hT7 : Z[(rO O a0 2)]? = some (3, 6) := (wt_f (ci := 10) (k := 2) hW hZ0 rfl).2
      refine ok_getR (ci := 10) (k := 2) dX10_sounds_24 flRX10_21 rfl hW hZ0 (by decide) ?_
      have hT8 : Z[(rO O (rO O a0 2) 0)]? = some (13, 80) := (wt_f (ci := 3) (k := 0) hW hT7 rfl).2
      refine ok_getR (ci := 3) (k := 0) dX10_sounds_27 flRX10_50 rfl hW hT7 (by decide) ?_
      refine ok_iload_n dX10_sounds_30 1 rfl ?_
      refine ok_bipush (v := 16) dX10_sounds_31 (by decide) ?_
      refine ok_imul dX10_sounds_33 ?_
      refine ok_iload_n dX10_sounds_34 2 rfl ?_
      refine ok_iadd dX10_sounds_35 ?_
      obtain ⟨hg9, h⟩ := gd h
      refine ok_iald2 (N := ((x1 * 16) + x2).toNatClampNeg) dX10_sounds_36 hT8 hg9 rfl ?_
      refine ok_bipush (v := 9) dX10_sounds_37 (by decide) ?_
      refine ok_icmp_ge (t := 46) dX10_sounds_39 (by decide) (fun hc10 => ?_) (fun hc10 => ?_)
      · have h := (if_pos hc10).symm.trans h
        refine ok_iconst (v := 0) dX10_sounds_46 (by decide) ?_
        cases h
        exact ok_iret dX10_sounds_47 (hQ (Or.inl rfl))
      · have h := (if_neg hc10).symm.trans h
        refine ok_iconst (v := 1) dX10_sounds_42 (by decide) ?_
        refine ok_goto (t := 47) dX10_sounds_43 (by decide) ?_
        cases h
        exact ok_iret dX10_sounds_47 (hQ (Or.inr rfl))
theorem k10_sounds {g : pG} {Q : Option Value → pW → Prop} {Z : pZ} {I : (Nat → Nat → Int32)} {L : (Nat → Nat → Int64)} {O : (Nat → Nat → Option Nat)} {a0 : Nat} {x1 : Int32} {x2 : Int32} {res : Int32} (d : Nat) (hW : WT Z O) (hZ0 : Z[a0]? = some (10, 5)) (h : f10_sounds I O a0 x1 x2 = some res) (hQ : Q (some (.int res)) (Z, I, L, O)) : CT g (d + 3) m10_sounds 0 0 [.ref a0, .int x1, .int x2] (Z, I, L, O) Q :=
  ct_of_ok (mt := m10_sounds) (ini := false) mo10_sounds.2.2.2.2 (fun h => by cases h) (Nat.le_of_ble_eq_true rfl) (o10_sounds d hW hZ0 h (fun hb => ⟨hb, hQ, rfl, rfl⟩))
theorem dX10_wearMore_0 : decode cX10_wearMore 0 = .ok (.aload_n 0, 1) := by decide +kernel
theorem dX10_wearMore_1 : decode cX10_wearMore 1 = .ok (.iload_n 1, 1) := by decide +kernel
theorem dX10_wearMore_2 : decode cX10_wearMore 2 = .ok (.iload_n 2, 1) := by decide +kernel
theorem dX10_wearMore_3 : decode cX10_wearMore 3 = .ok (.invokevirtual 46, 3) := by decide +kernel
theorem dX10_wearMore_6 : decode cX10_wearMore 6 = .ok (.ifCond .eq 38, 3) := by decide +kernel
theorem dX10_wearMore_9 : decode cX10_wearMore 9 = .ok (.aload_n 0, 1) := by decide +kernel
theorem dX10_wearMore_10 : decode cX10_wearMore 10 = .ok (.getfield 21, 3) := by decide +kernel
theorem dX10_wearMore_13 : decode cX10_wearMore 13 = .ok (.getfield 50, 3) := by decide +kernel
theorem dX10_wearMore_16 : decode cX10_wearMore 16 = .ok (.iload_n 1, 1) := by decide +kernel
theorem dX10_wearMore_17 : decode cX10_wearMore 17 = .ok (.bipush 16, 2) := by decide +kernel
theorem dX10_wearMore_19 : decode cX10_wearMore 19 = .ok (.imul, 1) := by decide +kernel
theorem dX10_wearMore_20 : decode cX10_wearMore 20 = .ok (.iload_n 2, 1) := by decide +kernel
theorem dX10_wearMore_21 : decode cX10_wearMore 21 = .ok (.iadd, 1) := by decide +kernel
theorem dX10_wearMore_22 : decode cX10_wearMore 22 = .ok (.bipush 9, 2) := by decide +kernel
theorem dX10_wearMore_24 : decode cX10_wearMore 24 = .ok (.aload_n 0, 1) := by decide +kernel
theorem dX10_wearMore_25 : decode cX10_wearMore 25 = .ok (.getfield 21, 3) := by decide +kernel
theorem dX10_wearMore_28 : decode cX10_wearMore 28 = .ok (.getfield 50, 3) := by decide +kernel
theorem dX10_wearMore_31 : decode cX10_wearMore 31 = .ok (.iload_n 1, 1) := by decide +kernel
theorem dX10_wearMore_32 : decode cX10_wearMore 32 = .ok (.bipush 16, 2) := by decide +kernel
theorem dX10_wearMore_34 : decode cX10_wearMore 34 = .ok (.imul, 1) := by decide +kernel
theorem dX10_wearMore_35 : decode cX10_wearMore 35 = .ok (.iload_n 2, 1) := by decide +kernel
theorem dX10_wearMore_36 : decode cX10_wearMore 36 = .ok (.iadd, 1) := by decide +kernel
theorem dX10_wearMore_37 : decode cX10_wearMore 37 = .ok (.iaload, 1) := by decide +kernel
theorem dX10_wearMore_38 : decode cX10_wearMore 38 = .ok (.iload_n 3, 1) := by decide +kernel
theorem dX10_wearMore_39 : decode cX10_wearMore 39 = .ok (.iadd, 1) := by decide +kernel
theorem dX10_wearMore_40 : decode cX10_wearMore 40 = .ok (.invokestatic 53, 3) := by decide +kernel
theorem dX10_wearMore_43 : decode cX10_wearMore 43 = .ok (.iastore, 1) := by decide +kernel
theorem dX10_wearMore_44 : decode cX10_wearMore 44 = .ok (.return_, 1) := by decide +kernel
def m10_wearMore : pMT := (yX10_wearMore, cX10_wearMore, 4, none)
theorem mo10_wearMore : mOK m10_wearMore 3 := ⟨tb_i 815 (by decide +kernel), wi_RX10, ⟨wn_RX10.1, wn_RX10.2, by decide +kernel⟩, by decide, plainFor_of_name wp_RX10⟩
theorem mv10_wearMore : mV m10_wearMore := ⟨tb_i 813 (by decide +kernel), tb_i 814 (by decide +kernel)⟩
def f10_wearMore (I : (Nat → Nat → Int32)) (O : (Nat → Nat → Option Nat)) (a0 : Nat) (x1 : Int32) (x2 : Int32) (x3 : Int32) : Option ((Nat → Nat → Int32)) := (f10_hasPlace I O a0 x1 x2).bind fun r1 => (if r1 = 0 then some (I) else (if ((x1 * 16) + x2) < 0 ∨ 80 ≤ ((x1 * 16) + x2).toNatClampNeg then none else (fJ9_min_7cf53 (9 : Int32) ((I (rO O (rO O a0 2) 0) ((x1 * 16) + x2).toNatClampNeg) + x3)).bind fun r7 => (if ((x1 * 16) + x2) < 0 ∨ 80 ≤ ((x1 * 16) + x2).toNatClampNeg then none else bl (sI I (rO O (rO O a0 2) 0) ((x1 * 16) + x2).toNatClampNeg r7) fun I10 => some (I10))))
set_option maxHeartbeats 4000000 in
set_option maxRecDepth 20000 in
theorem o10_wearMore {g : pG} {Qx : Option Value → pW → Prop} {Z : pZ} {I : (Nat → Nat → Int32)} {L : (Nat → Nat → Int64)} {O : (Nat → Nat → Option Nat)} {a0 : Nat} {x1 : Int32} {x2 : Int32} {x3 : Int32} {res : (Nat → Nat → Int32)} (d : Nat) (hW : WT Z O) (hZ0 : Z[a0]? = some (10, 5)) (h : f10_wearMore I O a0 x1 x2 x3 = some res) (hQ : Qx none (Z, res, L, O)) : Ok g (d + 3, RX10, cX10_wearMore, 4, false, 0, 0, Z.length, pSl Z) Qx 0 [(0, .ref a0), (1, .int x1), (2, .int x2), (3, .int x3)] [] (Z, I, L, O) := by
  unfold f10_wearMore at h
  refine ok_aload_n dX10_wearMore_0 0 rfl ?_
  refine ok_iload_n dX10_wearMore_1 1 rfl ?_
  refine ok_iload_n dX10_wearMore_2 2 rfl ?_
  obtain ⟨r1, hr2, h⟩ := bd h
  refine ok_callV (d := ((d + 0) + 2)) (mt := m10_hasPlace) (mc := 0) (ms := 0) (As := [.int x1, .int x2]) (r := []) dX10_wearMore_3 mo10_hasPlace mv10_hasPlace lkRX10_46 rfl hZ0 (q := (RX10, TX10, 5)) rfl rfl rfl (Nat.le_of_ble_eq_true rfl) (by show _ + 1 ≤ d + _; omega) (Nat.le_refl _) (Nat.le_refl _) (pRt_mono ?_)
  refine k10_hasPlace (d + 0) hW hZ0 hr2 ?_
  intro hbr1
  show Ok g _ Qx 6 [(0, .ref a0), (1, .int x1), (2, .int x2), (3, .int x3)] [.int r1] (Z, I, L, O)
  refine ok_if_eq (t := 44) dX10_wearMore_6 (by decide) (fun hc3 => ?_) (fun hc3 => ?_)
  · have h := (if_pos hc3).symm.trans h
    cases h
    exact ok_vret dX10_wearMore_44 hQ
  · have h := (if_neg hc3).symm.trans h
    refine ok_aload_n dX10_wearMore_9 0 rfl ?_
    have hT4 : Z[(rO O a0 2)]? = some (3, 6) := (wt_f (ci := 10) (k := 2) hW hZ0 rfl).2
    refine ok_getR (ci := 10) (k := 2) dX10_wearMore_10 flRX10_21 rfl hW hZ0 (by decide) ?_
    have hT5 : Z[(rO O (rO O a0 2) 0)]? = some (13, 80) := (wt_f (ci := 3) (k := 0) hW hT4 rfl).2
    refine ok_getR (ci := 3) (k := 0) dX10_wearMore_13 flRX10_50 rfl hW hT4 (by decide) ?_
    refine ok_iload_n dX10_wearMore_16 1 rfl ?_
    refine ok_bipush (v := 16) dX10_wearMore_17 (by decide) ?_
    refine ok_imul dX10_wearMore_19 ?_
    refine ok_iload_n dX10_wearMore_20 2 rfl ?_
    refine ok_iadd dX10_wearMore_21 ?_
    refine ok_bipush (v := 9) dX10_wearMore_22 (by decide) ?_
    refine ok_aload_n dX10_wearMore_24 0 rfl ?_
    refine ok_getR (ci := 10) (k := 2) dX10_wearMore_25 flRX10_21 rfl hW hZ0 (by decide) ?_
    refine ok_getR (ci := 3) (k := 0) dX10_wearMore_28 flRX10_50 rfl hW hT4 (by decide) ?_
    refine ok_iload_n dX10_wearMore_31 1 rfl ?_
    refine ok_bipush (v := 16) dX10_wearMore_32 (by decide) ?_
    refine ok_imul dX10_wearMore_34 ?_
    refine ok_iload_n dX10_wearMore_35 2 rfl ?_
    refine ok_iadd dX10_wearMore_36 ?_
    obtain ⟨hg6, h⟩ := gd h
    refine ok_iald2 (N := ((x1 * 16) + x2).toNatClampNeg) dX10_wearMore_37 hT5 hg6 rfl ?_
    refine ok_iload_n dX10_wearMore_38 3 rfl ?_
    refine ok_iadd dX10_wearMore_39 ?_
    obtain ⟨r7, hr8, h⟩ := bd h
    refine ok_callS (d := ((d + 0) + 2)) (mt := mJ9_min_7cf53) (mc := 0) (ms := 0) (As := [.int 9, .int ((I (rO O (rO O a0 2) 0) ((x1 * 16) + x2).toNatClampNeg) + x3)]) (r := [.int ((x1 * 16) + x2), .ref (rO O (rO O a0 2) 0)]) dX10_wearMore_40 moJ9_min_7cf53 mvJ9_min_7cf53 lkRX10_53 rfl rfl (Nat.le_of_ble_eq_true rfl) (by show _ + 1 ≤ d + _; omega) (Nat.le_refl _) (Nat.le_refl _) (pRt_mono ?_)
    refine kJ9_min_7cf53 (d + 0) hW  hr8 ?_
    intro _
    show Ok g _ Qx 43 [(0, .ref a0), (1, .int x1), (2, .int x2), (3, .int x3)] [.int r7, .int ((x1 * 16) + x2), .ref (rO O (rO O a0 2) 0)] (Z, I, L, O)
    obtain ⟨hg9, h⟩ := gd h
    obtain ⟨I10, eI10, h⟩ := blE h
    refine ok_iast3 dX10_wearMore_43 hT5 hg9 rfl eI10 ?_
    cases h
    exact ok_vret dX10_wearMore_44 hQ
theorem k10_wearMore {g : pG} {Q : Option Value → pW → Prop} {Z : pZ} {I : (Nat → Nat → Int32)} {L : (Nat → Nat → Int64)} {O : (Nat → Nat → Option Nat)} {a0 : Nat} {x1 : Int32} {x2 : Int32} {x3 : Int32} {res : (Nat → Nat → Int32)} (d : Nat) (hW : WT Z O) (hZ0 : Z[a0]? = some (10, 5)) (h : f10_wearMore I O a0 x1 x2 x3 = some res) (hQ : Q none (Z, res, L, O)) : CT g (d + 3) m10_wearMore 0 0 [.ref a0, .int x1, .int x2, .int x3] (Z, I, L, O) Q :=
  ct_of_ok (mt := m10_wearMore) (ini := false) mo10_wearMore.2.2.2.2 (fun h => by cases h) (Nat.le_of_ble_eq_true rfl) (o10_wearMore d hW hZ0 h ⟨trivial, hQ, rfl, rfl⟩)
theorem dX10_mend_0 : decode cX10_mend 0 = .ok (.aload_n 0, 1) := by decide +kernel
theorem dX10_mend_1 : decode cX10_mend 1 = .ok (.iload_n 1, 1) := by decide +kernel
theorem dX10_mend_2 : decode cX10_mend 2 = .ok (.iload_n 2, 1) := by decide +kernel
theorem dX10_mend_3 : decode cX10_mend 3 = .ok (.invokevirtual 46, 3) := by decide +kernel
theorem dX10_mend_6 : decode cX10_mend 6 = .ok (.ifCond .eq 18, 3) := by decide +kernel
theorem dX10_mend_9 : decode cX10_mend 9 = .ok (.aload_n 0, 1) := by decide +kernel
theorem dX10_mend_10 : decode cX10_mend 10 = .ok (.getfield 21, 3) := by decide +kernel
theorem dX10_mend_13 : decode cX10_mend 13 = .ok (.getfield 50, 3) := by decide +kernel
theorem dX10_mend_16 : decode cX10_mend 16 = .ok (.iload_n 1, 1) := by decide +kernel
theorem dX10_mend_17 : decode cX10_mend 17 = .ok (.bipush 16, 2) := by decide +kernel
theorem dX10_mend_19 : decode cX10_mend 19 = .ok (.imul, 1) := by decide +kernel
theorem dX10_mend_20 : decode cX10_mend 20 = .ok (.iload_n 2, 1) := by decide +kernel
theorem dX10_mend_21 : decode cX10_mend 21 = .ok (.iadd, 1) := by decide +kernel
theorem dX10_mend_22 : decode cX10_mend 22 = .ok (.iconst 0, 1) := by decide +kernel
theorem dX10_mend_23 : decode cX10_mend 23 = .ok (.iastore, 1) := by decide +kernel
theorem dX10_mend_24 : decode cX10_mend 24 = .ok (.return_, 1) := by decide +kernel
def m10_mend : pMT := (yX10_mend, cX10_mend, 3, none)
theorem mo10_mend : mOK m10_mend 2 := ⟨tb_i 828 (by decide +kernel), wi_RX10, ⟨wn_RX10.1, wn_RX10.2, by decide +kernel⟩, by decide, plainFor_of_name wp_RX10⟩
theorem mv10_mend : mV m10_mend := ⟨tb_i 826 (by decide +kernel), tb_i 827 (by decide +kernel)⟩
def f10_mend (I : (Nat → Nat → Int32)) (O : (Nat → Nat → Option Nat)) (a0 : Nat) (x1 : Int32) (x2 : Int32) : Option ((Nat → Nat → Int32)) := (f10_hasPlace I O a0 x1 x2).bind fun r1 => (if r1 = 0 then some (I) else (if ((x1 * 16) + x2) < 0 ∨ 80 ≤ ((x1 * 16) + x2).toNatClampNeg then none else bl (sI I (rO O (rO O a0 2) 0) ((x1 * 16) + x2).toNatClampNeg (0 : Int32)) fun I7 => some (I7)))
set_option maxHeartbeats 4000000 in
set_option maxRecDepth 20000 in
theorem o10_mend {g : pG} {Qx : Option Value → pW → Prop} {Z : pZ} {I : (Nat → Nat → Int32)} {L : (Nat → Nat → Int64)} {O : (Nat → Nat → Option Nat)} {a0 : Nat} {x1 : Int32} {x2 : Int32} {res : (Nat → Nat → Int32)} (d : Nat) (hW : WT Z O) (hZ0 : Z[a0]? = some (10, 5)) (h : f10_mend I O a0 x1 x2 = some res) (hQ : Qx none (Z, res, L, O)) : Ok g (d + 3, RX10, cX10_mend, 3, false, 0, 0, Z.length, pSl Z) Qx 0 [(0, .ref a0), (1, .int x1), (2, .int x2)] [] (Z, I, L, O) := by
  unfold f10_mend at h
  refine ok_aload_n dX10_mend_0 0 rfl ?_
  refine ok_iload_n dX10_mend_1 1 rfl ?_
  refine ok_iload_n dX10_mend_2 2 rfl ?_
  obtain ⟨r1, hr2, h⟩ := bd h
  refine ok_callV (d := ((d + 0) + 2)) (mt := m10_hasPlace) (mc := 0) (ms := 0) (As := [.int x1, .int x2]) (r := []) dX10_mend_3 mo10_hasPlace mv10_hasPlace lkRX10_46 rfl hZ0 (q := (RX10, TX10, 5)) rfl rfl rfl (Nat.le_of_ble_eq_true rfl) (by show _ + 1 ≤ d + _; omega) (Nat.le_refl _) (Nat.le_refl _) (pRt_mono ?_)
  refine k10_hasPlace (d + 0) hW hZ0 hr2 ?_
  intro hbr1
  show Ok g _ Qx 6 [(0, .ref a0), (1, .int x1), (2, .int x2)] [.int r1] (Z, I, L, O)
  refine ok_if_eq (t := 24) dX10_mend_6 (by decide) (fun hc3 => ?_) (fun hc3 => ?_)
  · have h := (if_pos hc3).symm.trans h
    cases h
    exact ok_vret dX10_mend_24 hQ
  · have h := (if_neg hc3).symm.trans h
    refine ok_aload_n dX10_mend_9 0 rfl ?_
    have hT4 : Z[(rO O a0 2)]? = some (3, 6) := (wt_f (ci := 10) (k := 2) hW hZ0 rfl).2
    refine ok_getR (ci := 10) (k := 2) dX10_mend_10 flRX10_21 rfl hW hZ0 (by decide) ?_
    have hT5 : Z[(rO O (rO O a0 2) 0)]? = some (13, 80) := (wt_f (ci := 3) (k := 0) hW hT4 rfl).2
    refine ok_getR (ci := 3) (k := 0) dX10_mend_13 flRX10_50 rfl hW hT4 (by decide) ?_
    refine ok_iload_n dX10_mend_16 1 rfl ?_
    refine ok_bipush (v := 16) dX10_mend_17 (by decide) ?_
    refine ok_imul dX10_mend_19 ?_
    refine ok_iload_n dX10_mend_20 2 rfl ?_
    refine ok_iadd dX10_mend_21 ?_
    refine ok_iconst (v := 0) dX10_mend_22 (by decide) ?_
    obtain ⟨hg6, h⟩ := gd h
    obtain ⟨I7, eI7, h⟩ := blE h
    refine ok_iast3 dX10_mend_23 hT5 hg6 rfl eI7 ?_
    cases h
    exact ok_vret dX10_mend_24 hQ
theorem k10_mend {g : pG} {Q : Option Value → pW → Prop} {Z : pZ} {I : (Nat → Nat → Int32)} {L : (Nat → Nat → Int64)} {O : (Nat → Nat → Option Nat)} {a0 : Nat} {x1 : Int32} {x2 : Int32} {res : (Nat → Nat → Int32)} (d : Nat) (hW : WT Z O) (hZ0 : Z[a0]? = some (10, 5)) (h : f10_mend I O a0 x1 x2 = some res) (hQ : Q none (Z, res, L, O)) : CT g (d + 3) m10_mend 0 0 [.ref a0, .int x1, .int x2] (Z, I, L, O) Q :=
  ct_of_ok (mt := m10_mend) (ini := false) mo10_mend.2.2.2.2 (fun h => by cases h) (Nat.le_of_ble_eq_true rfl) (o10_mend d hW hZ0 h ⟨trivial, hQ, rfl, rfl⟩)
theorem dX10_heardBy_0 : decode cX10_heardBy 0 = .ok (.aload_n 0, 1) := by decide +kernel
theorem dX10_heardBy_1 : decode cX10_heardBy 1 = .ok (.iload_n 1, 1) := by decide +kernel
theorem dX10_heardBy_2 : decode cX10_heardBy 2 = .ok (.invokevirtual 59, 3) := by decide +kernel
theorem dX10_heardBy_5 : decode cX10_heardBy 5 = .ok (.ifCond .eq 31, 3) := by decide +kernel
theorem dX10_heardBy_8 : decode cX10_heardBy 8 = .ok (.iload_n 2, 1) := by decide +kernel
theorem dX10_heardBy_9 : decode cX10_heardBy 9 = .ok (.iconst 1, 1) := by decide +kernel
theorem dX10_heardBy_10 : decode cX10_heardBy 10 = .ok (.if_icmp .lt 26, 3) := by decide +kernel
theorem dX10_heardBy_13 : decode cX10_heardBy 13 = .ok (.iload_n 2, 1) := by decide +kernel
theorem dX10_heardBy_14 : decode cX10_heardBy 14 = .ok (.bipush 6, 2) := by decide +kernel
theorem dX10_heardBy_16 : decode cX10_heardBy 16 = .ok (.if_icmp .ge 20, 3) := by decide +kernel
theorem dX10_heardBy_19 : decode cX10_heardBy 19 = .ok (.aload_n 0, 1) := by decide +kernel
theorem dX10_heardBy_20 : decode cX10_heardBy 20 = .ok (.getfield 21, 3) := by decide +kernel
theorem dX10_heardBy_23 : decode cX10_heardBy 23 = .ok (.getfield 62, 3) := by decide +kernel
theorem dX10_heardBy_26 : decode cX10_heardBy 26 = .ok (.iload_n 1, 1) := by decide +kernel
theorem dX10_heardBy_27 : decode cX10_heardBy 27 = .ok (.bipush 6, 2) := by decide +kernel
theorem dX10_heardBy_29 : decode cX10_heardBy 29 = .ok (.imul, 1) := by decide +kernel
theorem dX10_heardBy_30 : decode cX10_heardBy 30 = .ok (.iload_n 2, 1) := by decide +kernel
theorem dX10_heardBy_31 : decode cX10_heardBy 31 = .ok (.iadd, 1) := by decide +kernel
theorem dX10_heardBy_32 : decode cX10_heardBy 32 = .ok (.iaload, 1) := by decide +kernel
theorem dX10_heardBy_33 : decode cX10_heardBy 33 = .ok (.goto 4, 3) := by decide +kernel
theorem dX10_heardBy_36 : decode cX10_heardBy 36 = .ok (.iconst (-1), 1) := by decide +kernel
theorem dX10_heardBy_37 : decode cX10_heardBy 37 = .ok (.ireturn, 1) := by decide +kernel
def m10_heardBy : pMT := (yX10_heardBy, cX10_heardBy, 3, some .int)
theorem mo10_heardBy : mOK m10_heardBy 2 := ⟨tb_i 836 (by decide +kernel), wi_RX10, ⟨wn_RX10.1, wn_RX10.2, by decide +kernel⟩, by decide, plainFor_of_name wp_RX10⟩
theorem mv10_heardBy : mV m10_heardBy := ⟨tb_i 834 (by decide +kernel), tb_i 835 (by decide +kernel)⟩
def f10_heardBy (I : (Nat → Nat → Int32)) (O : (Nat → Nat → Option Nat)) (a0 : Nat) (x1 : Int32) (x2 : Int32) : Option (Int32) := (f10_hasChild I a0 x1).bind fun r1 => (if r1 = 0 then some (((-1) : Int32)) else (if x2 < (1 : Int32) then some (((-1) : Int32)) else (if (6 : Int32) ≤ x2 then some (((-1) : Int32)) else (if ((x1 * 6) + x2) < 0 ∨ 24 ≤ ((x1 * 6) + x2).toNatClampNeg then none else some ((I (rO O (rO O a0 2) 1) ((x1 * 6) + x2).toNatClampNeg))))))
set_option maxHeartbeats 4000000 in
set_option maxRecDepth 20000 in
theorem o10_heardBy {g : pG} {Qx : Option Value → pW → Prop} {Z : pZ} {I : (Nat → Nat → Int32)} {L : (Nat → Nat → Int64)} {O : (Nat → Nat → Option Nat)} {a0 : Nat} {x1 : Int32} {x2 : Int32} {res : Int32} (d : Nat) (hW : WT Z O) (hZ0 : Z[a0]? = some (10, 5)) (h : f10_heardBy I O a0 x1 x2 = some res) (hQ : Qx (some (.int res)) (Z, I, L, O)) : Ok g (d + 3, RX10, cX10_heardBy, 3, false, 0, 0, Z.length, pSl Z) Qx 0 [(0, .ref a0), (1, .int x1), (2, .int x2)] [] (Z, I, L, O) := by
  unfold f10_heardBy at h
  refine ok_aload_n dX10_heardBy_0 0 rfl ?_
  refine ok_iload_n dX10_heardBy_1 1 rfl ?_
  obtain ⟨r1, hr2, h⟩ := bd h
  refine ok_callV (d := ((d + 0) + 2)) (mt := m10_hasChild) (mc := 0) (ms := 0) (As := [.int x1]) (r := []) dX10_heardBy_2 mo10_hasChild mv10_hasChild lkRX10_59 rfl hZ0 (q := (RX10, TX10, 5)) rfl rfl rfl (Nat.le_of_ble_eq_true rfl) (by show _ + 1 ≤ d + _; omega) (Nat.le_refl _) (Nat.le_refl _) (pRt_mono ?_)
  refine k10_hasChild (d + 0) hW hZ0 hr2 ?_
  intro hbr1
  show Ok g _ Qx 5 [(0, .ref a0), (1, .int x1), (2, .int x2)] [.int r1] (Z, I, L, O)
  refine ok_if_eq (t := 36) dX10_heardBy_5 (by decide) (fun hc3 => ?_) (fun hc3 => ?_)
  · have h := (if_pos hc3).symm.trans h
    refine ok_iconst (v := (-1)) dX10_heardBy_36 (by decide) ?_
    cases h
    exact ok_iret dX10_heardBy_37 hQ
  · have h := (if_neg hc3).symm.trans h
    refine ok_iload_n dX10_heardBy_8 2 rfl ?_
    refine ok_iconst (v := 1) dX10_heardBy_9 (by decide) ?_
    refine ok_icmp_lt (t := 36) dX10_heardBy_10 (by decide) (fun hc4 => ?_) (fun hc4 => ?_)
    · have h := (if_pos hc4).symm.trans h
      refine ok_iconst (v := (-1)) dX10_heardBy_36 (by decide) ?_
      cases h
      exact ok_iret dX10_heardBy_37 hQ
    · have h := (if_neg hc4).symm.trans h
      refine ok_iload_n dX10_heardBy_13 2 rfl ?_
      refine ok_bipush (v := 6) dX10_heardBy_14 (by decide) ?_
      refine ok_icmp_ge (t := 36) dX10_heardBy_16 (by decide) (fun hc5 => ?_) (fun hc5 => ?_)
      · have h := (if_pos hc5).symm.trans h
        refine ok_iconst (v := (-1)) dX10_heardBy_36 (by decide) ?_
        cases h
        exact ok_iret dX10_heardBy_37 hQ
      · have h := (if_neg hc5).symm.trans h
        refine ok_aload_n dX10_heardBy_19 0 rfl ?_
        have hT6 : Z[(rO O a0 2)]? = some (3, 6) := (wt_f (ci := 10) (k := 2) hW hZ0 rfl).2
        refine ok_getR (ci := 10) (k := 2) dX10_heardBy_20 flRX10_21 rfl hW hZ0 (by decide) ?_
        have hT7 : Z[(rO O (rO O a0 2) 1)]? = some (13, 24) := (wt_f (ci := 3) (k := 1) hW hT6 rfl).2
        refine ok_getR (ci := 3) (k := 1) dX10_heardBy_23 flRX10_62 rfl hW hT6 (by decide) ?_
        refine ok_iload_n dX10_heardBy_26 1 rfl ?_
        refine ok_bipush (v := 6) dX10_heardBy_27 (by decide) ?_
        refine ok_imul dX10_heardBy_29 ?_
        refine ok_iload_n dX10_heardBy_30 2 rfl ?_
        refine ok_iadd dX10_heardBy_31 ?_
        obtain ⟨hg8, h⟩ := gd h
        refine ok_iald2 (N := ((x1 * 6) + x2).toNatClampNeg) dX10_heardBy_32 hT7 hg8 rfl ?_
        refine ok_goto (t := 37) dX10_heardBy_33 (by decide) ?_
        cases h
        exact ok_iret dX10_heardBy_37 hQ
theorem k10_heardBy {g : pG} {Q : Option Value → pW → Prop} {Z : pZ} {I : (Nat → Nat → Int32)} {L : (Nat → Nat → Int64)} {O : (Nat → Nat → Option Nat)} {a0 : Nat} {x1 : Int32} {x2 : Int32} {res : Int32} (d : Nat) (hW : WT Z O) (hZ0 : Z[a0]? = some (10, 5)) (h : f10_heardBy I O a0 x1 x2 = some res) (hQ : Q (some (.int res)) (Z, I, L, O)) : CT g (d + 3) m10_heardBy 0 0 [.ref a0, .int x1, .int x2] (Z, I, L, O) Q :=
  ct_of_ok (mt := m10_heardBy) (ini := false) mo10_heardBy.2.2.2.2 (fun h => by cases h) (Nat.le_of_ble_eq_true rfl) (o10_heardBy d hW hZ0 h ⟨trivial, hQ, rfl, rfl⟩)
theorem dX10_timesHeard_0 : decode cX10_timesHeard 0 = .ok (.aload_n 0, 1) := by decide +kernel
theorem dX10_timesHeard_1 : decode cX10_timesHeard 1 = .ok (.iload_n 1, 1) := by decide +kernel
theorem dX10_timesHeard_2 : decode cX10_timesHeard 2 = .ok (.invokevirtual 59, 3) := by decide +kernel
theorem dX10_timesHeard_5 : decode cX10_timesHeard 5 = .ok (.ifCond .eq 30, 3) := by decide +kernel
theorem dX10_timesHeard_8 : decode cX10_timesHeard 8 = .ok (.iload_n 2, 1) := by decide +kernel
theorem dX10_timesHeard_9 : decode cX10_timesHeard 9 = .ok (.ifCond .lt 26, 3) := by decide +kernel
theorem dX10_timesHeard_12 : decode cX10_timesHeard 12 = .ok (.iload_n 2, 1) := by decide +kernel
theorem dX10_timesHeard_13 : decode cX10_timesHeard 13 = .ok (.bipush 6, 2) := by decide +kernel
theorem dX10_timesHeard_15 : decode cX10_timesHeard 15 = .ok (.if_icmp .ge 20, 3) := by decide +kernel
theorem dX10_timesHeard_18 : decode cX10_timesHeard 18 = .ok (.aload_n 0, 1) := by decide +kernel
theorem dX10_timesHeard_19 : decode cX10_timesHeard 19 = .ok (.getfield 21, 3) := by decide +kernel
theorem dX10_timesHeard_22 : decode cX10_timesHeard 22 = .ok (.getfield 62, 3) := by decide +kernel
theorem dX10_timesHeard_25 : decode cX10_timesHeard 25 = .ok (.iload_n 1, 1) := by decide +kernel
theorem dX10_timesHeard_26 : decode cX10_timesHeard 26 = .ok (.bipush 6, 2) := by decide +kernel
theorem dX10_timesHeard_28 : decode cX10_timesHeard 28 = .ok (.imul, 1) := by decide +kernel
theorem dX10_timesHeard_29 : decode cX10_timesHeard 29 = .ok (.iload_n 2, 1) := by decide +kernel
theorem dX10_timesHeard_30 : decode cX10_timesHeard 30 = .ok (.iadd, 1) := by decide +kernel
theorem dX10_timesHeard_31 : decode cX10_timesHeard 31 = .ok (.iaload, 1) := by decide +kernel
theorem dX10_timesHeard_32 : decode cX10_timesHeard 32 = .ok (.goto 4, 3) := by decide +kernel
theorem dX10_timesHeard_35 : decode cX10_timesHeard 35 = .ok (.iconst 0, 1) := by decide +kernel
theorem dX10_timesHeard_36 : decode cX10_timesHeard 36 = .ok (.ireturn, 1) := by decide +kernel
def m10_timesHeard : pMT := (yX10_timesHeard, cX10_timesHeard, 3, some .int)
theorem mo10_timesHeard : mOK m10_timesHeard 2 := ⟨tb_i 729 (by decide +kernel), wi_RX10, ⟨wn_RX10.1, wn_RX10.2, by decide +kernel⟩, by decide, plainFor_of_name wp_RX10⟩
theorem mv10_timesHeard : mV m10_timesHeard := ⟨tb_i 727 (by decide +kernel), tb_i 728 (by decide +kernel)⟩
def f10_timesHeard (I : (Nat → Nat → Int32)) (O : (Nat → Nat → Option Nat)) (a0 : Nat) (x1 : Int32) (x2 : Int32) : Option (Int32) := (f10_hasChild I a0 x1).bind fun r1 => (if r1 = 0 then some ((0 : Int32)) else (if x2 < 0 then some ((0 : Int32)) else (if (6 : Int32) ≤ x2 then some ((0 : Int32)) else (if ((x1 * 6) + x2) < 0 ∨ 24 ≤ ((x1 * 6) + x2).toNatClampNeg then none else some ((I (rO O (rO O a0 2) 1) ((x1 * 6) + x2).toNatClampNeg))))))
set_option maxHeartbeats 4000000 in
set_option maxRecDepth 20000 in
theorem o10_timesHeard {g : pG} {Qx : Option Value → pW → Prop} {Z : pZ} {I : (Nat → Nat → Int32)} {L : (Nat → Nat → Int64)} {O : (Nat → Nat → Option Nat)} {a0 : Nat} {x1 : Int32} {x2 : Int32} {res : Int32} (d : Nat) (hW : WT Z O) (hZ0 : Z[a0]? = some (10, 5)) (h : f10_timesHeard I O a0 x1 x2 = some res) (hQ : Qx (some (.int res)) (Z, I, L, O)) : Ok g (d + 3, RX10, cX10_timesHeard, 3, false, 0, 0, Z.length, pSl Z) Qx 0 [(0, .ref a0), (1, .int x1), (2, .int x2)] [] (Z, I, L, O) := by
  unfold f10_timesHeard at h
  refine ok_aload_n dX10_timesHeard_0 0 rfl ?_
  refine ok_iload_n dX10_timesHeard_1 1 rfl ?_
  obtain ⟨r1, hr2, h⟩ := bd h
  refine ok_callV (d := ((d + 0) + 2)) (mt := m10_hasChild) (mc := 0) (ms := 0) (As := [.int x1]) (r := []) dX10_timesHeard_2 mo10_hasChild mv10_hasChild lkRX10_59 rfl hZ0 (q := (RX10, TX10, 5)) rfl rfl rfl (Nat.le_of_ble_eq_true rfl) (by show _ + 1 ≤ d + _; omega) (Nat.le_refl _) (Nat.le_refl _) (pRt_mono ?_)
  refine k10_hasChild (d + 0) hW hZ0 hr2 ?_
  intro hbr1
  show Ok g _ Qx 5 [(0, .ref a0), (1, .int x1), (2, .int x2)] [.int r1] (Z, I, L, O)
  refine ok_if_eq (t := 35) dX10_timesHeard_5 (by decide) (fun hc3 => ?_) (fun hc3 => ?_)
  · have h := (if_pos hc3).symm.trans h
    refine ok_iconst (v := 0) dX10_timesHeard_35 (by decide) ?_
    cases h
    exact ok_iret dX10_timesHeard_36 hQ
  · have h := (if_neg hc3).symm.trans h
    refine ok_iload_n dX10_timesHeard_8 2 rfl ?_
    refine ok_if_lt (t := 35) dX10_timesHeard_9 (by decide) (fun hc4 => ?_) (fun hc4 => ?_)
    · have h := (if_pos hc4).symm.trans h
      refine ok_iconst (v := 0) dX10_timesHeard_35 (by decide) ?_
      cases h
      exact ok_iret dX10_timesHeard_36 hQ
    · have h := (if_neg hc4).symm.trans h
      refine ok_iload_n dX10_timesHeard_12 2 rfl ?_
      refine ok_bipush (v := 6) dX10_timesHeard_13 (by decide) ?_
      refine ok_icmp_ge (t := 35) dX10_timesHeard_15 (by decide) (fun hc5 => ?_) (fun hc5 => ?_)
      · have h := (if_pos hc5).symm.trans h
        refine ok_iconst (v := 0) dX10_timesHeard_35 (by decide) ?_
        cases h
        exact ok_iret dX10_timesHeard_36 hQ
      · have h := (if_neg hc5).symm.trans h
        refine ok_aload_n dX10_timesHeard_18 0 rfl ?_
        have hT6 : Z[(rO O a0 2)]? = some (3, 6) := (wt_f (ci := 10) (k := 2) hW hZ0 rfl).2
        refine ok_getR (ci := 10) (k := 2) dX10_timesHeard_19 flRX10_21 rfl hW hZ0 (by decide) ?_
        have hT7 : Z[(rO O (rO O a0 2) 1)]? = some (13, 24) := (wt_f (ci := 3) (k := 1) hW hT6 rfl).2
        refine ok_getR (ci := 3) (k := 1) dX10_timesHeard_22 flRX10_62 rfl hW hT6 (by decide) ?_
        refine ok_iload_n dX10_timesHeard_25 1 rfl ?_
        refine ok_bipush (v := 6) dX10_timesHeard_26 (by decide) ?_
        refine ok_imul dX10_timesHeard_28 ?_
        refine ok_iload_n dX10_timesHeard_29 2 rfl ?_
        refine ok_iadd dX10_timesHeard_30 ?_
        obtain ⟨hg8, h⟩ := gd h
        refine ok_iald2 (N := ((x1 * 6) + x2).toNatClampNeg) dX10_timesHeard_31 hT7 hg8 rfl ?_
        refine ok_goto (t := 36) dX10_timesHeard_32 (by decide) ?_
        cases h
        exact ok_iret dX10_timesHeard_36 hQ
theorem k10_timesHeard {g : pG} {Q : Option Value → pW → Prop} {Z : pZ} {I : (Nat → Nat → Int32)} {L : (Nat → Nat → Int64)} {O : (Nat → Nat → Option Nat)} {a0 : Nat} {x1 : Int32} {x2 : Int32} {res : Int32} (d : Nat) (hW : WT Z O) (hZ0 : Z[a0]? = some (10, 5)) (h : f10_timesHeard I O a0 x1 x2 = some res) (hQ : Q (some (.int res)) (Z, I, L, O)) : CT g (d + 3) m10_timesHeard 0 0 [.ref a0, .int x1, .int x2] (Z, I, L, O) Q :=
  ct_of_ok (mt := m10_timesHeard) (ini := false) mo10_timesHeard.2.2.2.2 (fun h => by cases h) (Nat.le_of_ble_eq_true rfl) (o10_timesHeard d hW hZ0 h ⟨trivial, hQ, rfl, rfl⟩)
theorem dX10_hear_0 : decode cX10_hear 0 = .ok (.aload_n 0, 1) := by decide +kernel
theorem dX10_hear_1 : decode cX10_hear 1 = .ok (.iload_n 1, 1) := by decide +kernel
theorem dX10_hear_2 : decode cX10_hear 2 = .ok (.invokevirtual 59, 3) := by decide +kernel
theorem dX10_hear_5 : decode cX10_hear 5 = .ok (.ifCond .eq 49, 3) := by decide +kernel
theorem dX10_hear_8 : decode cX10_hear 8 = .ok (.iload_n 2, 1) := by decide +kernel
theorem dX10_hear_9 : decode cX10_hear 9 = .ok (.iconst 1, 1) := by decide +kernel
theorem dX10_hear_10 : decode cX10_hear 10 = .ok (.if_icmp .lt 44, 3) := by decide +kernel
theorem dX10_hear_13 : decode cX10_hear 13 = .ok (.iload_n 2, 1) := by decide +kernel
theorem dX10_hear_14 : decode cX10_hear 14 = .ok (.bipush 6, 2) := by decide +kernel
theorem dX10_hear_16 : decode cX10_hear 16 = .ok (.if_icmp .ge 38, 3) := by decide +kernel
theorem dX10_hear_19 : decode cX10_hear 19 = .ok (.aload_n 0, 1) := by decide +kernel
theorem dX10_hear_20 : decode cX10_hear 20 = .ok (.getfield 21, 3) := by decide +kernel
theorem dX10_hear_23 : decode cX10_hear 23 = .ok (.getfield 62, 3) := by decide +kernel
theorem dX10_hear_26 : decode cX10_hear 26 = .ok (.iload_n 1, 1) := by decide +kernel
theorem dX10_hear_27 : decode cX10_hear 27 = .ok (.bipush 6, 2) := by decide +kernel
theorem dX10_hear_29 : decode cX10_hear 29 = .ok (.imul, 1) := by decide +kernel
theorem dX10_hear_30 : decode cX10_hear 30 = .ok (.iload_n 2, 1) := by decide +kernel
theorem dX10_hear_31 : decode cX10_hear 31 = .ok (.iadd, 1) := by decide +kernel
theorem dX10_hear_32 : decode cX10_hear 32 = .ok (.bipush 99, 2) := by decide +kernel
theorem dX10_hear_34 : decode cX10_hear 34 = .ok (.aload_n 0, 1) := by decide +kernel
theorem dX10_hear_35 : decode cX10_hear 35 = .ok (.getfield 21, 3) := by decide +kernel
theorem dX10_hear_38 : decode cX10_hear 38 = .ok (.getfield 62, 3) := by decide +kernel
theorem dX10_hear_41 : decode cX10_hear 41 = .ok (.iload_n 1, 1) := by decide +kernel
theorem dX10_hear_42 : decode cX10_hear 42 = .ok (.bipush 6, 2) := by decide +kernel
theorem dX10_hear_44 : decode cX10_hear 44 = .ok (.imul, 1) := by decide +kernel
theorem dX10_hear_45 : decode cX10_hear 45 = .ok (.iload_n 2, 1) := by decide +kernel
theorem dX10_hear_46 : decode cX10_hear 46 = .ok (.iadd, 1) := by decide +kernel
theorem dX10_hear_47 : decode cX10_hear 47 = .ok (.iaload, 1) := by decide +kernel
theorem dX10_hear_48 : decode cX10_hear 48 = .ok (.iconst 1, 1) := by decide +kernel
theorem dX10_hear_49 : decode cX10_hear 49 = .ok (.iadd, 1) := by decide +kernel
theorem dX10_hear_50 : decode cX10_hear 50 = .ok (.invokestatic 53, 3) := by decide +kernel
theorem dX10_hear_53 : decode cX10_hear 53 = .ok (.iastore, 1) := by decide +kernel
theorem dX10_hear_54 : decode cX10_hear 54 = .ok (.return_, 1) := by decide +kernel
def m10_hear : pMT := (yX10_hear, cX10_hear, 3, none)
theorem mo10_hear : mOK m10_hear 2 := ⟨tb_i 805 (by decide +kernel), wi_RX10, ⟨wn_RX10.1, wn_RX10.2, by decide +kernel⟩, by decide, plainFor_of_name wp_RX10⟩
theorem mv10_hear : mV m10_hear := ⟨tb_i 803 (by decide +kernel), tb_i 804 (by decide +kernel)⟩
def f10_hear (I : (Nat → Nat → Int32)) (O : (Nat → Nat → Option Nat)) (a0 : Nat) (x1 : Int32) (x2 : Int32) : Option ((Nat → Nat → Int32)) := (f10_hasChild I a0 x1).bind fun r1 => (if r1 = 0 then some (I) else (if x2 < (1 : Int32) then some (I) else (if (6 : Int32) ≤ x2 then some (I) else (if ((x1 * 6) + x2) < 0 ∨ 24 ≤ ((x1 * 6) + x2).toNatClampNeg then none else (fJ9_min_7cf53 (99 : Int32) ((I (rO O (rO O a0 2) 1) ((x1 * 6) + x2).toNatClampNeg) + 1)).bind fun r9 => (if ((x1 * 6) + x2) < 0 ∨ 24 ≤ ((x1 * 6) + x2).toNatClampNeg then none else bl (sI I (rO O (rO O a0 2) 1) ((x1 * 6) + x2).toNatClampNeg r9) fun I12 => some (I12))))))
set_option maxHeartbeats 4000000 in
set_option maxRecDepth 20000 in
theorem o10_hear {g : pG} {Qx : Option Value → pW → Prop} {Z : pZ} {I : (Nat → Nat → Int32)} {L : (Nat → Nat → Int64)} {O : (Nat → Nat → Option Nat)} {a0 : Nat} {x1 : Int32} {x2 : Int32} {res : (Nat → Nat → Int32)} (d : Nat) (hW : WT Z O) (hZ0 : Z[a0]? = some (10, 5)) (h : f10_hear I O a0 x1 x2 = some res) (hQ : Qx none (Z, res, L, O)) : Ok g (d + 3, RX10, cX10_hear, 3, false, 0, 0, Z.length, pSl Z) Qx 0 [(0, .ref a0), (1, .int x1), (2, .int x2)] [] (Z, I, L, O) := by
  unfold f10_hear at h
  refine ok_aload_n dX10_hear_0 0 rfl ?_
  refine ok_iload_n dX10_hear_1 1 rfl ?_
  obtain ⟨r1, hr2, h⟩ := bd h
  refine ok_callV (d := ((d + 0) + 2)) (mt := m10_hasChild) (mc := 0) (ms := 0) (As := [.int x1]) (r := []) dX10_hear_2 mo10_hasChild mv10_hasChild lkRX10_59 rfl hZ0 (q := (RX10, TX10, 5)) rfl rfl rfl (Nat.le_of_ble_eq_true rfl) (by show _ + 1 ≤ d + _; omega) (Nat.le_refl _) (Nat.le_refl _) (pRt_mono ?_)
  refine k10_hasChild (d + 0) hW hZ0 hr2 ?_
  intro hbr1
  show Ok g _ Qx 5 [(0, .ref a0), (1, .int x1), (2, .int x2)] [.int r1] (Z, I, L, O)
  refine ok_if_eq (t := 54) dX10_hear_5 (by decide) (fun hc3 => ?_) (fun hc3 => ?_)
  · have h := (if_pos hc3).symm.trans h
    cases h
    exact ok_vret dX10_hear_54 hQ
  · have h := (if_neg hc3).symm.trans h
    refine ok_iload_n dX10_hear_8 2 rfl ?_
    refine ok_iconst (v := 1) dX10_hear_9 (by decide) ?_
    refine ok_icmp_lt (t := 54) dX10_hear_10 (by decide) (fun hc4 => ?_) (fun hc4 => ?_)
    · have h := (if_pos hc4).symm.trans h
      cases h
      exact ok_vret dX10_hear_54 hQ
    · have h := (if_neg hc4).symm.trans h
      refine ok_iload_n dX10_hear_13 2 rfl ?_
      refine ok_bipush (v := 6) dX10_hear_14 (by decide) ?_
      refine ok_icmp_ge (t := 54) dX10_hear_16 (by decide) (fun hc5 => ?_) (fun hc5 => ?_)
      · have h := (if_pos hc5).symm.trans h
        cases h
        exact ok_vret dX10_hear_54 hQ
      · have h := (if_neg hc5).symm.trans h
        refine ok_aload_n dX10_hear_19 0 rfl ?_
        have hT6 : Z[(rO O a0 2)]? = some (3, 6) := (wt_f (ci := 10) (k := 2) hW hZ0 rfl).2
        refine ok_getR (ci := 10) (k := 2) dX10_hear_20 flRX10_21 rfl hW hZ0 (by decide) ?_
        have hT7 : Z[(rO O (rO O a0 2) 1)]? = some (13, 24) := (wt_f (ci := 3) (k := 1) hW hT6 rfl).2
        refine ok_getR (ci := 3) (k := 1) dX10_hear_23 flRX10_62 rfl hW hT6 (by decide) ?_
        refine ok_iload_n dX10_hear_26 1 rfl ?_
        refine ok_bipush (v := 6) dX10_hear_27 (by decide) ?_
        refine ok_imul dX10_hear_29 ?_
        refine ok_iload_n dX10_hear_30 2 rfl ?_
        refine ok_iadd dX10_hear_31 ?_
        refine ok_bipush (v := 99) dX10_hear_32 (by decide) ?_
        refine ok_aload_n dX10_hear_34 0 rfl ?_
        refine ok_getR (ci := 10) (k := 2) dX10_hear_35 flRX10_21 rfl hW hZ0 (by decide) ?_
        refine ok_getR (ci := 3) (k := 1) dX10_hear_38 flRX10_62 rfl hW hT6 (by decide) ?_
        refine ok_iload_n dX10_hear_41 1 rfl ?_
        refine ok_bipush (v := 6) dX10_hear_42 (by decide) ?_
        refine ok_imul dX10_hear_44 ?_
        refine ok_iload_n dX10_hear_45 2 rfl ?_
        refine ok_iadd dX10_hear_46 ?_
        obtain ⟨hg8, h⟩ := gd h
        refine ok_iald2 (N := ((x1 * 6) + x2).toNatClampNeg) dX10_hear_47 hT7 hg8 rfl ?_
        refine ok_iconst (v := 1) dX10_hear_48 (by decide) ?_
        refine ok_iadd dX10_hear_49 ?_
        obtain ⟨r9, hr10, h⟩ := bd h
        refine ok_callS (d := ((d + 0) + 2)) (mt := mJ9_min_7cf53) (mc := 0) (ms := 0) (As := [.int 99, .int ((I (rO O (rO O a0 2) 1) ((x1 * 6) + x2).toNatClampNeg) + 1)]) (r := [.int ((x1 * 6) + x2), .ref (rO O (rO O a0 2) 1)]) dX10_hear_50 moJ9_min_7cf53 mvJ9_min_7cf53 lkRX10_53 rfl rfl (Nat.le_of_ble_eq_true rfl) (by show _ + 1 ≤ d + _; omega) (Nat.le_refl _) (Nat.le_refl _) (pRt_mono ?_)
        refine kJ9_min_7cf53 (d + 0) hW  hr10 ?_
        intro _
        show Ok g _ Qx 53 [(0, .ref a0), (1, .int x1), (2, .int x2)] [.int r9, .int ((x1 * 6) + x2), .ref (rO O (rO O a0 2) 1)] (Z, I, L, O)
        obtain ⟨hg11, h⟩ := gd h
        obtain ⟨I12, eI12, h⟩ := blE h
        refine ok_iast3 dX10_hear_53 hT7 hg11 rfl eI12 ?_
        cases h
        exact ok_vret dX10_hear_54 hQ
theorem k10_hear {g : pG} {Q : Option Value → pW → Prop} {Z : pZ} {I : (Nat → Nat → Int32)} {L : (Nat → Nat → Int64)} {O : (Nat → Nat → Option Nat)} {a0 : Nat} {x1 : Int32} {x2 : Int32} {res : (Nat → Nat → Int32)} (d : Nat) (hW : WT Z O) (hZ0 : Z[a0]? = some (10, 5)) (h : f10_hear I O a0 x1 x2 = some res) (hQ : Q none (Z, res, L, O)) : CT g (d + 3) m10_hear 0 0 [.ref a0, .int x1, .int x2] (Z, I, L, O) Q :=
  ct_of_ok (mt := m10_hear) (ini := false) mo10_hear.2.2.2.2 (fun h => by cases h) (Nat.le_of_ble_eq_true rfl) (o10_hear d hW hZ0 h ⟨trivial, hQ, rfl, rfl⟩)
theorem dX10_unhear_0 : decode cX10_unhear 0 = .ok (.aload_n 0, 1) := by decide +kernel
theorem dX10_unhear_1 : decode cX10_unhear 1 = .ok (.iload_n 1, 1) := by decide +kernel
theorem dX10_unhear_2 : decode cX10_unhear 2 = .ok (.invokevirtual 59, 3) := by decide +kernel
theorem dX10_unhear_5 : decode cX10_unhear 5 = .ok (.ifCond .eq 29, 3) := by decide +kernel
theorem dX10_unhear_8 : decode cX10_unhear 8 = .ok (.iload_n 2, 1) := by decide +kernel
theorem dX10_unhear_9 : decode cX10_unhear 9 = .ok (.iconst 1, 1) := by decide +kernel
theorem dX10_unhear_10 : decode cX10_unhear 10 = .ok (.if_icmp .lt 24, 3) := by decide +kernel
theorem dX10_unhear_13 : decode cX10_unhear 13 = .ok (.iload_n 2, 1) := by decide +kernel
theorem dX10_unhear_14 : decode cX10_unhear 14 = .ok (.bipush 6, 2) := by decide +kernel
theorem dX10_unhear_16 : decode cX10_unhear 16 = .ok (.if_icmp .ge 18, 3) := by decide +kernel
theorem dX10_unhear_19 : decode cX10_unhear 19 = .ok (.aload_n 0, 1) := by decide +kernel
theorem dX10_unhear_20 : decode cX10_unhear 20 = .ok (.getfield 21, 3) := by decide +kernel
theorem dX10_unhear_23 : decode cX10_unhear 23 = .ok (.getfield 62, 3) := by decide +kernel
theorem dX10_unhear_26 : decode cX10_unhear 26 = .ok (.iload_n 1, 1) := by decide +kernel
theorem dX10_unhear_27 : decode cX10_unhear 27 = .ok (.bipush 6, 2) := by decide +kernel
theorem dX10_unhear_29 : decode cX10_unhear 29 = .ok (.imul, 1) := by decide +kernel
theorem dX10_unhear_30 : decode cX10_unhear 30 = .ok (.iload_n 2, 1) := by decide +kernel
theorem dX10_unhear_31 : decode cX10_unhear 31 = .ok (.iadd, 1) := by decide +kernel
theorem dX10_unhear_32 : decode cX10_unhear 32 = .ok (.iconst 0, 1) := by decide +kernel
theorem dX10_unhear_33 : decode cX10_unhear 33 = .ok (.iastore, 1) := by decide +kernel
theorem dX10_unhear_34 : decode cX10_unhear 34 = .ok (.return_, 1) := by decide +kernel
def m10_unhear : pMT := (yX10_unhear, cX10_unhear, 3, none)
theorem mo10_unhear : mOK m10_unhear 2 := ⟨tb_i 840 (by decide +kernel), wi_RX10, ⟨wn_RX10.1, wn_RX10.2, by decide +kernel⟩, by decide, plainFor_of_name wp_RX10⟩
theorem mv10_unhear : mV m10_unhear := ⟨tb_i 838 (by decide +kernel), tb_i 839 (by decide +kernel)⟩
def f10_unhear (I : (Nat → Nat → Int32)) (O : (Nat → Nat → Option Nat)) (a0 : Nat) (x1 : Int32) (x2 : Int32) : Option ((Nat → Nat → Int32)) := (f10_hasChild I a0 x1).bind fun r1 => (if r1 = 0 then some (I) else (if x2 < (1 : Int32) then some (I) else (if (6 : Int32) ≤ x2 then some (I) else (if ((x1 * 6) + x2) < 0 ∨ 24 ≤ ((x1 * 6) + x2).toNatClampNeg then none else bl (sI I (rO O (rO O a0 2) 1) ((x1 * 6) + x2).toNatClampNeg (0 : Int32)) fun I9 => some (I9)))))
set_option maxHeartbeats 4000000 in
set_option maxRecDepth 20000 in
theorem o10_unhear {g : pG} {Qx : Option Value → pW → Prop} {Z : pZ} {I : (Nat → Nat → Int32)} {L : (Nat → Nat → Int64)} {O : (Nat → Nat → Option Nat)} {a0 : Nat} {x1 : Int32} {x2 : Int32} {res : (Nat → Nat → Int32)} (d : Nat) (hW : WT Z O) (hZ0 : Z[a0]? = some (10, 5)) (h : f10_unhear I O a0 x1 x2 = some res) (hQ : Qx none (Z, res, L, O)) : Ok g (d + 3, RX10, cX10_unhear, 3, false, 0, 0, Z.length, pSl Z) Qx 0 [(0, .ref a0), (1, .int x1), (2, .int x2)] [] (Z, I, L, O) := by
  unfold f10_unhear at h
  refine ok_aload_n dX10_unhear_0 0 rfl ?_
  refine ok_iload_n dX10_unhear_1 1 rfl ?_
  obtain ⟨r1, hr2, h⟩ := bd h
  refine ok_callV (d := ((d + 0) + 2)) (mt := m10_hasChild) (mc := 0) (ms := 0) (As := [.int x1]) (r := []) dX10_unhear_2 mo10_hasChild mv10_hasChild lkRX10_59 rfl hZ0 (q := (RX10, TX10, 5)) rfl rfl rfl (Nat.le_of_ble_eq_true rfl) (by show _ + 1 ≤ d + _; omega) (Nat.le_refl _) (Nat.le_refl _) (pRt_mono ?_)
  refine k10_hasChild (d + 0) hW hZ0 hr2 ?_
  intro hbr1
  show Ok g _ Qx 5 [(0, .ref a0), (1, .int x1), (2, .int x2)] [.int r1] (Z, I, L, O)
  refine ok_if_eq (t := 34) dX10_unhear_5 (by decide) (fun hc3 => ?_) (fun hc3 => ?_)
  · have h := (if_pos hc3).symm.trans h
    cases h
    exact ok_vret dX10_unhear_34 hQ
  · have h := (if_neg hc3).symm.trans h
    refine ok_iload_n dX10_unhear_8 2 rfl ?_
    refine ok_iconst (v := 1) dX10_unhear_9 (by decide) ?_
    refine ok_icmp_lt (t := 34) dX10_unhear_10 (by decide) (fun hc4 => ?_) (fun hc4 => ?_)
    · have h := (if_pos hc4).symm.trans h
      cases h
      exact ok_vret dX10_unhear_34 hQ
    · have h := (if_neg hc4).symm.trans h
      refine ok_iload_n dX10_unhear_13 2 rfl ?_
      refine ok_bipush (v := 6) dX10_unhear_14 (by decide) ?_
      refine ok_icmp_ge (t := 34) dX10_unhear_16 (by decide) (fun hc5 => ?_) (fun hc5 => ?_)
      · have h := (if_pos hc5).symm.trans h
        cases h
        exact ok_vret dX10_unhear_34 hQ
      · have h := (if_neg hc5).symm.trans h
        refine ok_aload_n dX10_unhear_19 0 rfl ?_
        have hT6 : Z[(rO O a0 2)]? = some (3, 6) := (wt_f (ci := 10) (k := 2) hW hZ0 rfl).2
        refine ok_getR (ci := 10) (k := 2) dX10_unhear_20 flRX10_21 rfl hW hZ0 (by decide) ?_
        have hT7 : Z[(rO O (rO O a0 2) 1)]? = some (13, 24) := (wt_f (ci := 3) (k := 1) hW hT6 rfl).2
        refine ok_getR (ci := 3) (k := 1) dX10_unhear_23 flRX10_62 rfl hW hT6 (by decide) ?_
        refine ok_iload_n dX10_unhear_26 1 rfl ?_
        refine ok_bipush (v := 6) dX10_unhear_27 (by decide) ?_
        refine ok_imul dX10_unhear_29 ?_
        refine ok_iload_n dX10_unhear_30 2 rfl ?_
        refine ok_iadd dX10_unhear_31 ?_
        refine ok_iconst (v := 0) dX10_unhear_32 (by decide) ?_
        obtain ⟨hg8, h⟩ := gd h
        obtain ⟨I9, eI9, h⟩ := blE h
        refine ok_iast3 dX10_unhear_33 hT7 hg8 rfl eI9 ?_
        cases h
        exact ok_vret dX10_unhear_34 hQ
theorem k10_unhear {g : pG} {Q : Option Value → pW → Prop} {Z : pZ} {I : (Nat → Nat → Int32)} {L : (Nat → Nat → Int64)} {O : (Nat → Nat → Option Nat)} {a0 : Nat} {x1 : Int32} {x2 : Int32} {res : (Nat → Nat → Int32)} (d : Nat) (hW : WT Z O) (hZ0 : Z[a0]? = some (10, 5)) (h : f10_unhear I O a0 x1 x2 = some res) (hQ : Q none (Z, res, L, O)) : CT g (d + 3) m10_unhear 0 0 [.ref a0, .int x1, .int x2] (Z, I, L, O) Q :=
  ct_of_ok (mt := m10_unhear) (ini := false) mo10_unhear.2.2.2.2 (fun h => by cases h) (Nat.le_of_ble_eq_true rfl) (o10_unhear d hW hZ0 h ⟨trivial, hQ, rfl, rfl⟩)
theorem dX10_allHeard_0 : decode cX10_allHeard 0 = .ok (.iconst 0, 1) := by decide +kernel
theorem dX10_allHeard_1 : decode cX10_allHeard 1 = .ok (.istore_n 2, 1) := by decide +kernel
theorem dX10_allHeard_2 : decode cX10_allHeard 2 = .ok (.iconst 1, 1) := by decide +kernel
theorem dX10_allHeard_3 : decode cX10_allHeard 3 = .ok (.istore_n 3, 1) := by decide +kernel
theorem dX10_allHeard_4 : decode cX10_allHeard 4 = .ok (.iload_n 3, 1) := by decide +kernel
theorem dX10_allHeard_5 : decode cX10_allHeard 5 = .ok (.bipush 6, 2) := by decide +kernel
theorem dX10_allHeard_7 : decode cX10_allHeard 7 = .ok (.if_icmp .ge 18, 3) := by decide +kernel
theorem dX10_allHeard_10 : decode cX10_allHeard 10 = .ok (.iload_n 2, 1) := by decide +kernel
theorem dX10_allHeard_11 : decode cX10_allHeard 11 = .ok (.aload_n 0, 1) := by decide +kernel
theorem dX10_allHeard_12 : decode cX10_allHeard 12 = .ok (.iload_n 1, 1) := by decide +kernel
theorem dX10_allHeard_13 : decode cX10_allHeard 13 = .ok (.iload_n 3, 1) := by decide +kernel
theorem dX10_allHeard_14 : decode cX10_allHeard 14 = .ok (.invokevirtual 65, 3) := by decide +kernel
theorem dX10_allHeard_17 : decode cX10_allHeard 17 = .ok (.iadd, 1) := by decide +kernel
theorem dX10_allHeard_18 : decode cX10_allHeard 18 = .ok (.istore_n 2, 1) := by decide +kernel
theorem dX10_allHeard_19 : decode cX10_allHeard 19 = .ok (.iinc 3 1, 3) := by decide +kernel
theorem dX10_allHeard_22 : decode cX10_allHeard 22 = .ok (.goto (-18), 3) := by decide +kernel
theorem dX10_allHeard_25 : decode cX10_allHeard 25 = .ok (.iload_n 2, 1) := by decide +kernel
theorem dX10_allHeard_26 : decode cX10_allHeard 26 = .ok (.ireturn, 1) := by decide +kernel
def m10_allHeard : pMT := (yX10_allHeard, cX10_allHeard, 4, some .int)
theorem mo10_allHeard : mOK m10_allHeard 1 := ⟨tb_i 917 (by decide +kernel), wi_RX10, ⟨wn_RX10.1, wn_RX10.2, by decide +kernel⟩, by decide, plainFor_of_name wp_RX10⟩
theorem mv10_allHeard : mV m10_allHeard := ⟨tb_i 915 (by decide +kernel), tb_i 916 (by decide +kernel)⟩
def f10_allHeard_c4 (n : Nat) (I : (Nat → Nat → Int32)) (O : (Nat → Nat → Option Nat)) : Nat → Nat → Int32 → Int32 → Int32 → Option (Int32)
  | 0, _, _, _, _ => none
  | m + 1, b0, y1, y2, y3 => (if (6 : Int32) ≤ y3 then some (y2) else (f10_timesHeard I O b0 y1 y3).bind fun r2 => f10_allHeard_c4 n I O m b0 y1 (y2 + r2) (y3 + 1))
set_option maxHeartbeats 4000000 in
set_option maxRecDepth 20000 in
theorem o10_allHeard_c4 {g : pG} {Qx : Option Value → pW → Prop} {Z : pZ} {I : (Nat → Nat → Int32)} {L : (Nat → Nat → Int64)} {O : (Nat → Nat → Option Nat)} {n : Nat} {res : Int32} (d : Nat) (hW : WT Z O) (hQ : Qx (some (.int res)) (Z, I, L, O)) : ∀ (m : Nat) (b0 : Nat) (y1 : Int32) (y2 : Int32) (y3 : Int32), (Z[b0]? = some (10, 5)) → f10_allHeard_c4 n I O m b0 y1 y2 y3 = some res → Ok g (d + 4, RX10, cX10_allHeard, 4, false, 0, 0, Z.length, pSl Z) Qx 4 [(0, .ref b0), (1, .int y1), (2, .int y2), (3, .int y3)] [] (Z, I, L, O) := by
  intro m
  induction m with
  | zero => intro b0 y1 y2 y3 hZ_b0 h; rw [f10_allHeard_c4] at h; cases h
  | succ m ih =>
    intro b0 y1 y2 y3 hZ_b0 h
    rw [f10_allHeard_c4] at h
    refine ok_iload_n dX10_allHeard_4 3 rfl ?_
    refine ok_bipush (v := 6) dX10_allHeard_5 (by decide) ?_
    refine ok_icmp_ge (t := 25) dX10_allHeard_7 (by decide) (fun hc1 => ?_) (fun hc1 => ?_)
    · have h := (if_pos hc1).symm.trans h
      refine ok_iload_n dX10_allHeard_25 2 rfl ?_
      cases h
      exact ok_iret dX10_allHeard_26 hQ
    · have h := (if_neg hc1).symm.trans h
      refine ok_iload_n dX10_allHeard_10 2 rfl ?_
      refine ok_aload_n dX10_allHeard_11 0 rfl ?_
      refine ok_iload_n dX10_allHeard_12 1 rfl ?_
      refine ok_iload_n dX10_allHeard_13 3 rfl ?_
      obtain ⟨r2, hr3, h⟩ := bd h
      refine ok_callV (d := ((d + 0) + 3)) (mt := m10_timesHeard) (mc := 0) (ms := 0) (As := [.int y1, .int y3]) (r := [.int y2]) dX10_allHeard_14 mo10_timesHeard mv10_timesHeard lkRX10_65 rfl hZ_b0 (q := (RX10, TX10, 5)) rfl rfl rfl (Nat.le_of_ble_eq_true rfl) (by show _ + 1 ≤ d + _; omega) (Nat.le_refl _) (Nat.le_refl _) (pRt_mono ?_)
      refine k10_timesHeard (d + 0) hW hZ_b0 hr3 ?_
      intro _
      show Ok g _ Qx 17 [(0, .ref b0), (1, .int y1), (2, .int y2), (3, .int y3)] [.int r2, .int y2] (Z, I, L, O)
      refine ok_iadd dX10_allHeard_17 ?_
      refine ok_istore_n (l' := [(2, .int (y2 + r2)), (0, .ref b0), (1, .int y1), (3, .int y3)]) dX10_allHeard_18 rfl (Nat.le_of_ble_eq_true rfl) rfl ?_
      refine ok_iinc (u := (y3 + 1)) (l' := [(3, .int (y3 + 1)), (2, .int (y2 + r2)), (0, .ref b0), (1, .int y1)]) dX10_allHeard_19 3 rfl rfl (Nat.le_of_ble_eq_true rfl) rfl ?_
      refine ok_goto (t := 4) dX10_allHeard_22 (by decide) ?_
      refine ok_sub [2, 3, 1, 0] rfl ?_
      exact ih b0 y1 (y2 + r2) (y3 + 1) hZ_b0 h
def f10_allHeard (n : Nat) (I : (Nat → Nat → Int32)) (O : (Nat → Nat → Option Nat)) (a0 : Nat) (x1 : Int32) : Option (Int32) := f10_allHeard_c4 n I O n a0 x1 (0 : Int32) (1 : Int32)
set_option maxHeartbeats 4000000 in
set_option maxRecDepth 20000 in
theorem o10_allHeard {g : pG} {Qx : Option Value → pW → Prop} {Z : pZ} {I : (Nat → Nat → Int32)} {L : (Nat → Nat → Int64)} {O : (Nat → Nat → Option Nat)} {n : Nat} {a0 : Nat} {x1 : Int32} {res : Int32} (d : Nat) (hW : WT Z O) (hZ0 : Z[a0]? = some (10, 5)) (h : f10_allHeard n I O a0 x1 = some res) (hQ : Qx (some (.int res)) (Z, I, L, O)) : Ok g (d + 4, RX10, cX10_allHeard, 4, false, 0, 0, Z.length, pSl Z) Qx 0 [(0, .ref a0), (1, .int x1)] [] (Z, I, L, O) := by
  unfold f10_allHeard at h
  refine ok_iconst (v := 0) dX10_allHeard_0 (by decide) ?_
  refine ok_istore_n (l' := [(2, .int 0), (0, .ref a0), (1, .int x1)]) dX10_allHeard_1 rfl (Nat.le_of_ble_eq_true rfl) rfl ?_
  refine ok_iconst (v := 1) dX10_allHeard_2 (by decide) ?_
  refine ok_istore_n (l' := [(3, .int 1), (2, .int 0), (0, .ref a0), (1, .int x1)]) dX10_allHeard_3 rfl (Nat.le_of_ble_eq_true rfl) rfl ?_
  refine ok_sub [2, 3, 1, 0] rfl ?_
  exact o10_allHeard_c4 d hW hQ  n a0 x1 (0 : Int32) (1 : Int32) hZ0 h
theorem k10_allHeard {g : pG} {Q : Option Value → pW → Prop} {Z : pZ} {I : (Nat → Nat → Int32)} {L : (Nat → Nat → Int64)} {O : (Nat → Nat → Option Nat)} {n : Nat} {a0 : Nat} {x1 : Int32} {res : Int32} (d : Nat) (hW : WT Z O) (hZ0 : Z[a0]? = some (10, 5)) (h : f10_allHeard n I O a0 x1 = some res) (hQ : Q (some (.int res)) (Z, I, L, O)) : CT g (d + 4) m10_allHeard 0 0 [.ref a0, .int x1] (Z, I, L, O) Q :=
  ct_of_ok (mt := m10_allHeard) (ini := false) mo10_allHeard.2.2.2.2 (fun h => by cases h) (Nat.le_of_ble_eq_true rfl) (o10_allHeard d hW hZ0 h ⟨trivial, hQ, rfl, rfl⟩)
theorem dX10_mostHeard_0 : decode cX10_mostHeard 0 = .ok (.iconst (-1), 1) := by decide +kernel
theorem dX10_mostHeard_1 : decode cX10_mostHeard 1 = .ok (.istore_n 2, 1) := by decide +kernel
theorem dX10_mostHeard_2 : decode cX10_mostHeard 2 = .ok (.iconst 0, 1) := by decide +kernel
theorem dX10_mostHeard_3 : decode cX10_mostHeard 3 = .ok (.istore_n 3, 1) := by decide +kernel
theorem dX10_mostHeard_4 : decode cX10_mostHeard 4 = .ok (.iconst 1, 1) := by decide +kernel
theorem dX10_mostHeard_5 : decode cX10_mostHeard 5 = .ok (.istore 4, 2) := by decide +kernel
theorem dX10_mostHeard_7 : decode cX10_mostHeard 7 = .ok (.iload 4, 2) := by decide +kernel
theorem dX10_mostHeard_9 : decode cX10_mostHeard 9 = .ok (.bipush 6, 2) := by decide +kernel
theorem dX10_mostHeard_11 : decode cX10_mostHeard 11 = .ok (.if_icmp .ge 30, 3) := by decide +kernel
theorem dX10_mostHeard_14 : decode cX10_mostHeard 14 = .ok (.aload_n 0, 1) := by decide +kernel
theorem dX10_mostHeard_15 : decode cX10_mostHeard 15 = .ok (.iload_n 1, 1) := by decide +kernel
theorem dX10_mostHeard_16 : decode cX10_mostHeard 16 = .ok (.iload 4, 2) := by decide +kernel
theorem dX10_mostHeard_18 : decode cX10_mostHeard 18 = .ok (.invokevirtual 65, 3) := by decide +kernel
theorem dX10_mostHeard_21 : decode cX10_mostHeard 21 = .ok (.istore 5, 2) := by decide +kernel
theorem dX10_mostHeard_23 : decode cX10_mostHeard 23 = .ok (.iload 5, 2) := by decide +kernel
theorem dX10_mostHeard_25 : decode cX10_mostHeard 25 = .ok (.iload_n 3, 1) := by decide +kernel
theorem dX10_mostHeard_26 : decode cX10_mostHeard 26 = .ok (.if_icmp .le 9, 3) := by decide +kernel
theorem dX10_mostHeard_29 : decode cX10_mostHeard 29 = .ok (.iload 5, 2) := by decide +kernel
theorem dX10_mostHeard_31 : decode cX10_mostHeard 31 = .ok (.istore_n 3, 1) := by decide +kernel
theorem dX10_mostHeard_32 : decode cX10_mostHeard 32 = .ok (.iload 4, 2) := by decide +kernel
theorem dX10_mostHeard_34 : decode cX10_mostHeard 34 = .ok (.istore_n 2, 1) := by decide +kernel
theorem dX10_mostHeard_35 : decode cX10_mostHeard 35 = .ok (.iinc 4 1, 3) := by decide +kernel
theorem dX10_mostHeard_38 : decode cX10_mostHeard 38 = .ok (.goto (-31), 3) := by decide +kernel
theorem dX10_mostHeard_41 : decode cX10_mostHeard 41 = .ok (.iload_n 2, 1) := by decide +kernel
theorem dX10_mostHeard_42 : decode cX10_mostHeard 42 = .ok (.ireturn, 1) := by decide +kernel
def m10_mostHeard : pMT := (yX10_mostHeard, cX10_mostHeard, 6, some .int)
theorem mo10_mostHeard : mOK m10_mostHeard 1 := ⟨tb_i 922 (by decide +kernel), wi_RX10, ⟨wn_RX10.1, wn_RX10.2, by decide +kernel⟩, by decide, plainFor_of_name wp_RX10⟩
theorem mv10_mostHeard : mV m10_mostHeard := ⟨tb_i 920 (by decide +kernel), tb_i 921 (by decide +kernel)⟩
def f10_mostHeard_c7 (n : Nat) (I : (Nat → Nat → Int32)) (O : (Nat → Nat → Option Nat)) : Nat → Nat → Int32 → Int32 → Int32 → Int32 → Option (Int32)
  | 0, _, _, _, _, _ => none
  | m + 1, b0, y1, y2, y3, y4 => (if (6 : Int32) ≤ y4 then some (y2) else (f10_timesHeard I O b0 y1 y4).bind fun r2 => (if r2 ≤ y3 then f10_mostHeard_c7 n I O m b0 y1 y2 y3 (y4 + 1) else f10_mostHeard_c7 n I O m b0 y1 y4 r2 (y4 + 1)))
set_option maxHeartbeats 4000000 in
set_option maxRecDepth 20000 in
theorem o10_mostHeard_c7 {g : pG} {Qx : Option Value → pW → Prop} {Z : pZ} {I : (Nat → Nat → Int32)} {L : (Nat → Nat → Int64)} {O : (Nat → Nat → Option Nat)} {n : Nat} {res : Int32} (d : Nat) (hW : WT Z O) (hQ : Qx (some (.int res)) (Z, I, L, O)) : ∀ (m : Nat) (b0 : Nat) (y1 : Int32) (y2 : Int32) (y3 : Int32) (y4 : Int32), (Z[b0]? = some (10, 5)) → f10_mostHeard_c7 n I O m b0 y1 y2 y3 y4 = some res → Ok g (d + 4, RX10, cX10_mostHeard, 6, false, 0, 0, Z.length, pSl Z) Qx 7 [(0, .ref b0), (1, .int y1), (2, .int y2), (3, .int y3), (4, .int y4)] [] (Z, I, L, O) := by
  intro m
  induction m with
  | zero => intro b0 y1 y2 y3 y4 hZ_b0 h; rw [f10_mostHeard_c7] at h; cases h
  | succ m ih =>
    intro b0 y1 y2 y3 y4 hZ_b0 h
    rw [f10_mostHeard_c7] at h
    refine ok_iload dX10_mostHeard_7 4 rfl ?_
    refine ok_bipush (v := 6) dX10_mostHeard_9 (by decide) ?_
    refine ok_icmp_ge (t := 41) dX10_mostHeard_11 (by decide) (fun hc1 => ?_) (fun hc1 => ?_)
    · have h := (if_pos hc1).symm.trans h
      refine ok_iload_n dX10_mostHeard_41 2 rfl ?_
      cases h
      exact ok_iret dX10_mostHeard_42 hQ
    · have h := (if_neg hc1).symm.trans h
      refine ok_aload_n dX10_mostHeard_14 0 rfl ?_
      refine ok_iload_n dX10_mostHeard_15 1 rfl ?_
      refine ok_iload dX10_mostHeard_16 4 rfl ?_
      obtain ⟨r2, hr3, h⟩ := bd h
      refine ok_callV (d := ((d + 0) + 3)) (mt := m10_timesHeard) (mc := 0) (ms := 0) (As := [.int y1, .int y4]) (r := []) dX10_mostHeard_18 mo10_timesHeard mv10_timesHeard lkRX10_65 rfl hZ_b0 (q := (RX10, TX10, 5)) rfl rfl rfl (Nat.le_of_ble_eq_true rfl) (by show _ + 1 ≤ d + _; omega) (Nat.le_refl _) (Nat.le_refl _) (pRt_mono ?_)
      refine k10_timesHeard (d + 0) hW hZ_b0 hr3 ?_
      intro _
      show Ok g _ Qx 21 [(0, .ref b0), (1, .int y1), (2, .int y2), (3, .int y3), (4, .int y4)] [.int r2] (Z, I, L, O)
      refine ok_istore (l' := [(5, .int r2), (0, .ref b0), (1, .int y1), (2, .int y2), (3, .int y3), (4, .int y4)]) dX10_mostHeard_21 (Nat.le_of_ble_eq_true rfl) rfl ?_
      refine ok_iload dX10_mostHeard_23 0 rfl ?_
      refine ok_iload_n dX10_mostHeard_25 4 rfl ?_
      refine ok_icmp_le (t := 35) dX10_mostHeard_26 (by decide) (fun hc4 => ?_) (fun hc4 => ?_)
      · have h := (if_pos hc4).symm.trans h
        refine ok_iinc (u := (y4 + 1)) (l' := [(4, .int (y4 + 1)), (5, .int r2), (0, .ref b0), (1, .int y1), (2, .int y2), (3, .int y3)]) dX10_mostHeard_35 5 rfl rfl (Nat.le_of_ble_eq_true rfl) rfl ?_
        refine ok_goto (t := 7) dX10_mostHeard_38 (by decide) ?_
        refine ok_sub [2, 3, 4, 5, 0] rfl ?_
        exact ih b0 y1 y2 y3 (y4 + 1) hZ_b0 h
      · have h := (if_neg hc4).symm.trans h
        refine ok_iload dX10_mostHeard_29 0 rfl ?_
        refine ok_istore_n (l' := [(3, .int r2), (5, .int r2), (0, .ref b0), (1, .int y1), (2, .int y2), (4, .int y4)]) dX10_mostHeard_31 rfl (Nat.le_of_ble_eq_true rfl) rfl ?_
        refine ok_iload dX10_mostHeard_32 5 rfl ?_
        refine ok_istore_n (l' := [(2, .int y4), (3, .int r2), (5, .int r2), (0, .ref b0), (1, .int y1), (4, .int y4)]) dX10_mostHeard_34 rfl (Nat.le_of_ble_eq_true rfl) rfl ?_
        refine ok_iinc (u := (y4 + 1)) (l' := [(4, .int (y4 + 1)), (2, .int y4), (3, .int r2), (5, .int r2), (0, .ref b0), (1, .int y1)]) dX10_mostHeard_35 5 rfl rfl (Nat.le_of_ble_eq_true rfl) rfl ?_
        refine ok_goto (t := 7) dX10_mostHeard_38 (by decide) ?_
        refine ok_sub [4, 5, 1, 2, 0] rfl ?_
        exact ih b0 y1 y4 r2 (y4 + 1) hZ_b0 h
def f10_mostHeard (n : Nat) (I : (Nat → Nat → Int32)) (O : (Nat → Nat → Option Nat)) (a0 : Nat) (x1 : Int32) : Option (Int32) := f10_mostHeard_c7 n I O n a0 x1 (-1 : Int32) (0 : Int32) (1 : Int32)
set_option maxHeartbeats 4000000 in
set_option maxRecDepth 20000 in
theorem o10_mostHeard {g : pG} {Qx : Option Value → pW → Prop} {Z : pZ} {I : (Nat → Nat → Int32)} {L : (Nat → Nat → Int64)} {O : (Nat → Nat → Option Nat)} {n : Nat} {a0 : Nat} {x1 : Int32} {res : Int32} (d : Nat) (hW : WT Z O) (hZ0 : Z[a0]? = some (10, 5)) (h : f10_mostHeard n I O a0 x1 = some res) (hQ : Qx (some (.int res)) (Z, I, L, O)) : Ok g (d + 4, RX10, cX10_mostHeard, 6, false, 0, 0, Z.length, pSl Z) Qx 0 [(0, .ref a0), (1, .int x1)] [] (Z, I, L, O) := by
  unfold f10_mostHeard at h
  refine ok_iconst (v := (-1)) dX10_mostHeard_0 (by decide) ?_
  refine ok_istore_n (l' := [(2, .int (-1)), (0, .ref a0), (1, .int x1)]) dX10_mostHeard_1 rfl (Nat.le_of_ble_eq_true rfl) rfl ?_
  refine ok_iconst (v := 0) dX10_mostHeard_2 (by decide) ?_
  refine ok_istore_n (l' := [(3, .int 0), (2, .int (-1)), (0, .ref a0), (1, .int x1)]) dX10_mostHeard_3 rfl (Nat.le_of_ble_eq_true rfl) rfl ?_
  refine ok_iconst (v := 1) dX10_mostHeard_4 (by decide) ?_
  refine ok_istore (l' := [(4, .int 1), (3, .int 0), (2, .int (-1)), (0, .ref a0), (1, .int x1)]) dX10_mostHeard_5 (Nat.le_of_ble_eq_true rfl) rfl ?_
  refine ok_sub [3, 4, 2, 1, 0] rfl ?_
  exact o10_mostHeard_c7 d hW hQ  n a0 x1 (-1 : Int32) (0 : Int32) (1 : Int32) hZ0 h
theorem k10_mostHeard {g : pG} {Q : Option Value → pW → Prop} {Z : pZ} {I : (Nat → Nat → Int32)} {L : (Nat → Nat → Int64)} {O : (Nat → Nat → Option Nat)} {n : Nat} {a0 : Nat} {x1 : Int32} {res : Int32} (d : Nat) (hW : WT Z O) (hZ0 : Z[a0]? = some (10, 5)) (h : f10_mostHeard n I O a0 x1 = some res) (hQ : Q (some (.int res)) (Z, I, L, O)) : CT g (d + 4) m10_mostHeard 0 0 [.ref a0, .int x1] (Z, I, L, O) Q :=
  ct_of_ok (mt := m10_mostHeard) (ini := false) mo10_mostHeard.2.2.2.2 (fun h => by cases h) (Nat.le_of_ble_eq_true rfl) (o10_mostHeard d hW hZ0 h ⟨trivial, hQ, rfl, rfl⟩)
theorem dX10_holes_0 : decode cX10_holes 0 = .ok (.iload_n 1, 1) := by decide +kernel
theorem dX10_holes_1 : decode cX10_holes 1 = .ok (.ifCond .lt 25, 3) := by decide +kernel
theorem dX10_holes_4 : decode cX10_holes 4 = .ok (.iload_n 1, 1) := by decide +kernel
theorem dX10_holes_5 : decode cX10_holes 5 = .ok (.aload_n 0, 1) := by decide +kernel
theorem dX10_holes_6 : decode cX10_holes 6 = .ok (.getfield 35, 3) := by decide +kernel
theorem dX10_holes_9 : decode cX10_holes 9 = .ok (.if_icmp .ge 17, 3) := by decide +kernel
theorem dX10_holes_12 : decode cX10_holes 12 = .ok (.iload_n 1, 1) := by decide +kernel
theorem dX10_holes_13 : decode cX10_holes 13 = .ok (.iconst 5, 1) := by decide +kernel
theorem dX10_holes_14 : decode cX10_holes 14 = .ok (.if_icmp .ge 12, 3) := by decide +kernel
theorem dX10_holes_17 : decode cX10_holes 17 = .ok (.aload_n 0, 1) := by decide +kernel
theorem dX10_holes_18 : decode cX10_holes 18 = .ok (.getfield 9, 3) := by decide +kernel
theorem dX10_holes_21 : decode cX10_holes 21 = .ok (.iload_n 1, 1) := by decide +kernel
theorem dX10_holes_22 : decode cX10_holes 22 = .ok (.iaload, 1) := by decide +kernel
theorem dX10_holes_23 : decode cX10_holes 23 = .ok (.goto 4, 3) := by decide +kernel
theorem dX10_holes_26 : decode cX10_holes 26 = .ok (.iconst 0, 1) := by decide +kernel
theorem dX10_holes_27 : decode cX10_holes 27 = .ok (.istore_n 2, 1) := by decide +kernel
theorem dX10_holes_28 : decode cX10_holes 28 = .ok (.iconst 0, 1) := by decide +kernel
theorem dX10_holes_29 : decode cX10_holes 29 = .ok (.istore_n 3, 1) := by decide +kernel
theorem dX10_holes_30 : decode cX10_holes 30 = .ok (.iconst 0, 1) := by decide +kernel
theorem dX10_holes_31 : decode cX10_holes 31 = .ok (.istore 4, 2) := by decide +kernel
theorem dX10_holes_33 : decode cX10_holes 33 = .ok (.iload 4, 2) := by decide +kernel
theorem dX10_holes_35 : decode cX10_holes 35 = .ok (.iload_n 2, 1) := by decide +kernel
theorem dX10_holes_36 : decode cX10_holes 36 = .ok (.if_icmp .ge 34, 3) := by decide +kernel
theorem dX10_holes_39 : decode cX10_holes 39 = .ok (.iload 4, 2) := by decide +kernel
theorem dX10_holes_41 : decode cX10_holes 41 = .ok (.bipush 16, 2) := by decide +kernel
theorem dX10_holes_43 : decode cX10_holes 43 = .ok (.if_icmp .ge 27, 3) := by decide +kernel
theorem dX10_holes_46 : decode cX10_holes 46 = .ok (.aload_n 0, 1) := by decide +kernel
theorem dX10_holes_47 : decode cX10_holes 47 = .ok (.getfield 15, 3) := by decide +kernel
theorem dX10_holes_50 : decode cX10_holes 50 = .ok (.iload_n 1, 1) := by decide +kernel
theorem dX10_holes_51 : decode cX10_holes 51 = .ok (.bipush 16, 2) := by decide +kernel
theorem dX10_holes_53 : decode cX10_holes 53 = .ok (.imul, 1) := by decide +kernel
theorem dX10_holes_54 : decode cX10_holes 54 = .ok (.iload 4, 2) := by decide +kernel
theorem dX10_holes_56 : decode cX10_holes 56 = .ok (.iadd, 1) := by decide +kernel
theorem dX10_holes_57 : decode cX10_holes 57 = .ok (.iaload, 1) := by decide +kernel
theorem dX10_holes_58 : decode cX10_holes 58 = .ok (.ifCond .eq 6, 3) := by decide +kernel
theorem dX10_holes_61 : decode cX10_holes 61 = .ok (.iinc 3 1, 3) := by decide +kernel
theorem dX10_holes_64 : decode cX10_holes 64 = .ok (.iinc 4 1, 3) := by decide +kernel
theorem dX10_holes_67 : decode cX10_holes 67 = .ok (.goto (-34), 3) := by decide +kernel
theorem dX10_holes_70 : decode cX10_holes 70 = .ok (.iload_n 3, 1) := by decide +kernel
theorem dX10_holes_71 : decode cX10_holes 71 = .ok (.ireturn, 1) := by decide +kernel
def m10_holes : pMT := (yX10_holes, cX10_holes, 5, some .int)
theorem mo10_holes : mOK m10_holes 1 := ⟨tb_i 768 (by decide +kernel), wi_RX10, ⟨wn_RX10.1, wn_RX10.2, by decide +kernel⟩, by decide, plainFor_of_name wp_RX10⟩
theorem mv10_holes : mV m10_holes := ⟨tb_i 766 (by decide +kernel), tb_i 767 (by decide +kernel)⟩
def f10_holes_c33 (n : Nat) (I : (Nat → Nat → Int32)) (O : (Nat → Nat → Option Nat)) : Nat → Nat → Int32 → Int32 → Int32 → Int32 → Option (Int32)
  | 0, _, _, _, _, _ => none
  | m + 1, b0, y1, y2, y3, y4 => (if y2 ≤ y4 then some (y3) else (if (16 : Int32) ≤ y4 then some (y3) else (if ((y1 * 16) + y4) < 0 ∨ 80 ≤ ((y1 * 16) + y4).toNatClampNeg then none else (if (I (rO O b0 1) ((y1 * 16) + y4).toNatClampNeg) = 0 then f10_holes_c33 n I O m b0 y1 y2 y3 (y4 + 1) else f10_holes_c33 n I O m b0 y1 y2 (y3 + 1) (y4 + 1)))))
set_option maxHeartbeats 4000000 in
set_option maxRecDepth 20000 in
theorem o10_holes_c33 {g : pG} {Qx : Option Value → pW → Prop} {Z : pZ} {I : (Nat → Nat → Int32)} {L : (Nat → Nat → Int64)} {O : (Nat → Nat → Option Nat)} {n : Nat} {res : Int32} (d : Nat) (hW : WT Z O) (hQ : Qx (some (.int res)) (Z, I, L, O)) : ∀ (m : Nat) (b0 : Nat) (y1 : Int32) (y2 : Int32) (y3 : Int32) (y4 : Int32), (Z[b0]? = some (10, 5)) → f10_holes_c33 n I O m b0 y1 y2 y3 y4 = some res → Ok g (d + 2, RX10, cX10_holes, 5, false, 0, 0, Z.length, pSl Z) Qx 33 [(0, .ref b0), (1, .int y1), (2, .int y2), (3, .int y3), (4, .int y4)] [] (Z, I, L, O) := by
  intro m
  induction m with
  | zero => intro b0 y1 y2 y3 y4 hZ_b0 h; rw [f10_holes_c33] at h; cases h
  | succ m ih =>
    intro b0 y1 y2 y3 y4 hZ_b0 h
    rw [f10_holes_c33] at h
    refine ok_iload dX10_holes_33 4 rfl ?_
    refine ok_iload_n dX10_holes_35 2 rfl ?_
    refine ok_icmp_ge (t := 70) dX10_holes_36 (by decide) (fun hc1 => ?_) (fun hc1 => ?_)
    · have h := (if_pos hc1).symm.trans h
      refine ok_iload_n dX10_holes_70 3 rfl ?_
      cases h
      exact ok_iret dX10_holes_71 hQ
    · have h := (if_neg hc1).symm.trans h
      refine ok_iload dX10_holes_39 4 rfl ?_
      refine ok_bipush (v := 16) dX10_holes_41 (by decide) ?_
      refine ok_icmp_ge (t := 70) dX10_holes_43 (by decide) (fun hc2 => ?_) (fun hc2 => ?_)
      · have h := (if_pos hc2).symm.trans h
        refine ok_iload_n dX10_holes_70 3 rfl ?_
        cases h
        exact ok_iret dX10_holes_71 hQ
      · have h := (if_neg hc2).symm.trans h
        refine ok_aload_n dX10_holes_46 0 rfl ?_
        have hT3 : Z[(rO O b0 1)]? = some (13, 80) := (wt_f (ci := 10) (k := 1) hW hZ_b0 rfl).2
        refine ok_getR (ci := 10) (k := 1) dX10_holes_47 flRX10_15 rfl hW hZ_b0 (by decide) ?_
        refine ok_iload_n dX10_holes_50 1 rfl ?_
        refine ok_bipush (v := 16) dX10_holes_51 (by decide) ?_
        refine ok_imul dX10_holes_53 ?_
        refine ok_iload dX10_holes_54 4 rfl ?_
        refine ok_iadd dX10_holes_56 ?_
        obtain ⟨hg4, h⟩ := gd h
        refine ok_iald2 (N := ((y1 * 16) + y4).toNatClampNeg) dX10_holes_57 hT3 hg4 rfl ?_
        refine ok_if_eq (t := 64) dX10_holes_58 (by decide) (fun hc5 => ?_) (fun hc5 => ?_)
        · have h := (if_pos hc5).symm.trans h
          refine ok_iinc (u := (y4 + 1)) (l' := [(4, .int (y4 + 1)), (0, .ref b0), (1, .int y1), (2, .int y2), (3, .int y3)]) dX10_holes_64 4 rfl rfl (Nat.le_of_ble_eq_true rfl) rfl ?_
          refine ok_goto (t := 33) dX10_holes_67 (by decide) ?_
          refine ok_sub [1, 2, 3, 4, 0] rfl ?_
          exact ih b0 y1 y2 y3 (y4 + 1) hZ_b0 h
        · have h := (if_neg hc5).symm.trans h
          refine ok_iinc (u := (y3 + 1)) (l' := [(3, .int (y3 + 1)), (0, .ref b0), (1, .int y1), (2, .int y2), (4, .int y4)]) dX10_holes_61 3 rfl rfl (Nat.le_of_ble_eq_true rfl) rfl ?_
          refine ok_iinc (u := (y4 + 1)) (l' := [(4, .int (y4 + 1)), (3, .int (y3 + 1)), (0, .ref b0), (1, .int y1), (2, .int y2)]) dX10_holes_64 4 rfl rfl (Nat.le_of_ble_eq_true rfl) rfl ?_
          refine ok_goto (t := 33) dX10_holes_67 (by decide) ?_
          refine ok_sub [2, 3, 4, 1, 0] rfl ?_
          exact ih b0 y1 y2 (y3 + 1) (y4 + 1) hZ_b0 h
def f10_holes (n : Nat) (I : (Nat → Nat → Int32)) (O : (Nat → Nat → Option Nat)) (a0 : Nat) (x1 : Int32) : Option (Int32) := (if x1 < 0 then f10_holes_c33 n I O n a0 x1 (0 : Int32) (0 : Int32) (0 : Int32) else (if (I a0 3) ≤ x1 then f10_holes_c33 n I O n a0 x1 (0 : Int32) (0 : Int32) (0 : Int32) else (if (5 : Int32) ≤ x1 then f10_holes_c33 n I O n a0 x1 (0 : Int32) (0 : Int32) (0 : Int32) else (if x1 < 0 ∨ 5 ≤ x1.toNatClampNeg then none else bl ((I (rO O a0 0) x1.toNatClampNeg) : Int32) fun z6 => f10_holes_c33 n I O n a0 x1 z6 (0 : Int32) (0 : Int32)))))
set_option maxHeartbeats 4000000 in
set_option maxRecDepth 20000 in
theorem o10_holes {g : pG} {Qx : Option Value → pW → Prop} {Z : pZ} {I : (Nat → Nat → Int32)} {L : (Nat → Nat → Int64)} {O : (Nat → Nat → Option Nat)} {n : Nat} {a0 : Nat} {x1 : Int32} {res : Int32} (d : Nat) (hW : WT Z O) (hZ0 : Z[a0]? = some (10, 5)) (h : f10_holes n I O a0 x1 = some res) (hQ : Qx (some (.int res)) (Z, I, L, O)) : Ok g (d + 2, RX10, cX10_holes, 5, false, 0, 0, Z.length, pSl Z) Qx 0 [(0, .ref a0), (1, .int x1)] [] (Z, I, L, O) := by
  unfold f10_holes at h
  refine ok_iload_n dX10_holes_0 1 rfl ?_
  refine ok_if_lt (t := 26) dX10_holes_1 (by decide) (fun hc1 => ?_) (fun hc1 => ?_)
  · have h := (if_pos hc1).symm.trans h
    refine ok_iconst (v := 0) dX10_holes_26 (by decide) ?_
    refine ok_istore_n (l' := [(2, .int 0), (0, .ref a0), (1, .int x1)]) dX10_holes_27 rfl (Nat.le_of_ble_eq_true rfl) rfl ?_
    refine ok_iconst (v := 0) dX10_holes_28 (by decide) ?_
    refine ok_istore_n (l' := [(3, .int 0), (2, .int 0), (0, .ref a0), (1, .int x1)]) dX10_holes_29 rfl (Nat.le_of_ble_eq_true rfl) rfl ?_
    refine ok_iconst (v := 0) dX10_holes_30 (by decide) ?_
    refine ok_istore (l' := [(4, .int 0), (3, .int 0), (2, .int 0), (0, .ref a0), (1, .int x1)]) dX10_holes_31 (Nat.le_of_ble_eq_true rfl) rfl ?_
    refine ok_sub [3, 4, 2, 1, 0] rfl ?_
    exact o10_holes_c33 d hW hQ  n a0 x1 (0 : Int32) (0 : Int32) (0 : Int32) hZ0 h
  · have h := (if_neg hc1).symm.trans h
    refine ok_iload_n dX10_holes_4 1 rfl ?_
    refine ok_aload_n dX10_holes_5 0 rfl ?_
    refine ok_getI (ci := 10) (k := 3) dX10_holes_6 flRX10_35 rfl hZ0 (by decide) ?_
    refine ok_icmp_ge (t := 26) dX10_holes_9 (by decide) (fun hc2 => ?_) (fun hc2 => ?_)
    · have h := (if_pos hc2).symm.trans h
      refine ok_iconst (v := 0) dX10_holes_26 (by decide) ?_
      refine ok_istore_n (l' := [(2, .int 0), (0, .ref a0), (1, .int x1)]) dX10_holes_27 rfl (Nat.le_of_ble_eq_true rfl) rfl ?_
      refine ok_iconst (v := 0) dX10_holes_28 (by decide) ?_
      refine ok_istore_n (l' := [(3, .int 0), (2, .int 0), (0, .ref a0), (1, .int x1)]) dX10_holes_29 rfl (Nat.le_of_ble_eq_true rfl) rfl ?_
      refine ok_iconst (v := 0) dX10_holes_30 (by decide) ?_
      refine ok_istore (l' := [(4, .int 0), (3, .int 0), (2, .int 0), (0, .ref a0), (1, .int x1)]) dX10_holes_31 (Nat.le_of_ble_eq_true rfl) rfl ?_
      refine ok_sub [3, 4, 2, 1, 0] rfl ?_
      exact o10_holes_c33 d hW hQ  n a0 x1 (0 : Int32) (0 : Int32) (0 : Int32) hZ0 h
    · have h := (if_neg hc2).symm.trans h
      refine ok_iload_n dX10_holes_12 1 rfl ?_
      refine ok_iconst (v := 5) dX10_holes_13 (by decide) ?_
      refine ok_icmp_ge (t := 26) dX10_holes_14 (by decide) (fun hc3 => ?_) (fun hc3 => ?_)
      · have h := (if_pos hc3).symm.trans h
        refine ok_iconst (v := 0) dX10_holes_26 (by decide) ?_
        refine ok_istore_n (l' := [(2, .int 0), (0, .ref a0), (1, .int x1)]) dX10_holes_27 rfl (Nat.le_of_ble_eq_true rfl) rfl ?_
        refine ok_iconst (v := 0) dX10_holes_28 (by decide) ?_
        refine ok_istore_n (l' := [(3, .int 0), (2, .int 0), (0, .ref a0), (1, .int x1)]) dX10_holes_29 rfl (Nat.le_of_ble_eq_true rfl) rfl ?_
        refine ok_iconst (v := 0) dX10_holes_30 (by decide) ?_
        refine ok_istore (l' := [(4, .int 0), (3, .int 0), (2, .int 0), (0, .ref a0), (1, .int x1)]) dX10_holes_31 (Nat.le_of_ble_eq_true rfl) rfl ?_
        refine ok_sub [3, 4, 2, 1, 0] rfl ?_
        exact o10_holes_c33 d hW hQ  n a0 x1 (0 : Int32) (0 : Int32) (0 : Int32) hZ0 h
      · have h := (if_neg hc3).symm.trans h
        refine ok_aload_n dX10_holes_17 0 rfl ?_
        have hT4 : Z[(rO O a0 0)]? = some (13, 5) := (wt_f (ci := 10) (k := 0) hW hZ0 rfl).2
        refine ok_getR (ci := 10) (k := 0) dX10_holes_18 flRX10_9 rfl hW hZ0 (by decide) ?_
        refine ok_iload_n dX10_holes_21 1 rfl ?_
        obtain ⟨hg5, h⟩ := gd h
        refine ok_iald2 (N := x1.toNatClampNeg) dX10_holes_22 hT4 hg5 rfl ?_
        refine ok_goto (t := 27) dX10_holes_23 (by decide) ?_
        obtain ⟨z6, ez6, h⟩ := blE h
        refine ok_nm ez6 ?_
        refine ok_istore_n (l' := [(2, .int z6), (0, .ref a0), (1, .int x1)]) dX10_holes_27 rfl (Nat.le_of_ble_eq_true rfl) rfl ?_
        refine ok_iconst (v := 0) dX10_holes_28 (by decide) ?_
        refine ok_istore_n (l' := [(3, .int 0), (2, .int z6), (0, .ref a0), (1, .int x1)]) dX10_holes_29 rfl (Nat.le_of_ble_eq_true rfl) rfl ?_
        refine ok_iconst (v := 0) dX10_holes_30 (by decide) ?_
        refine ok_istore (l' := [(4, .int 0), (3, .int 0), (2, .int z6), (0, .ref a0), (1, .int x1)]) dX10_holes_31 (Nat.le_of_ble_eq_true rfl) rfl ?_
        refine ok_sub [3, 4, 2, 1, 0] rfl ?_
        exact o10_holes_c33 d hW hQ  n a0 x1 z6 (0 : Int32) (0 : Int32) hZ0 h
theorem k10_holes {g : pG} {Q : Option Value → pW → Prop} {Z : pZ} {I : (Nat → Nat → Int32)} {L : (Nat → Nat → Int64)} {O : (Nat → Nat → Option Nat)} {n : Nat} {a0 : Nat} {x1 : Int32} {res : Int32} (d : Nat) (hW : WT Z O) (hZ0 : Z[a0]? = some (10, 5)) (h : f10_holes n I O a0 x1 = some res) (hQ : Q (some (.int res)) (Z, I, L, O)) : CT g (d + 2) m10_holes 0 0 [.ref a0, .int x1] (Z, I, L, O) Q :=
  ct_of_ok (mt := m10_holes) (ini := false) mo10_holes.2.2.2.2 (fun h => by cases h) (Nat.le_of_ble_eq_true rfl) (o10_holes d hW hZ0 h ⟨trivial, hQ, rfl, rfl⟩)
theorem dX10_tornPlaces_0 : decode cX10_tornPlaces 0 = .ok (.iconst 0, 1) := by decide +kernel
theorem dX10_tornPlaces_1 : decode cX10_tornPlaces 1 = .ok (.istore_n 2, 1) := by decide +kernel
theorem dX10_tornPlaces_2 : decode cX10_tornPlaces 2 = .ok (.iconst 0, 1) := by decide +kernel
theorem dX10_tornPlaces_3 : decode cX10_tornPlaces 3 = .ok (.istore_n 3, 1) := by decide +kernel
theorem dX10_tornPlaces_4 : decode cX10_tornPlaces 4 = .ok (.iload_n 3, 1) := by decide +kernel
theorem dX10_tornPlaces_5 : decode cX10_tornPlaces 5 = .ok (.aload_n 0, 1) := by decide +kernel
theorem dX10_tornPlaces_6 : decode cX10_tornPlaces 6 = .ok (.iload_n 1, 1) := by decide +kernel
theorem dX10_tornPlaces_7 : decode cX10_tornPlaces 7 = .ok (.invokevirtual 68, 3) := by decide +kernel
theorem dX10_tornPlaces_10 : decode cX10_tornPlaces 10 = .ok (.if_icmp .ge 24, 3) := by decide +kernel
theorem dX10_tornPlaces_13 : decode cX10_tornPlaces 13 = .ok (.aload_n 0, 1) := by decide +kernel
theorem dX10_tornPlaces_14 : decode cX10_tornPlaces 14 = .ok (.iload_n 1, 1) := by decide +kernel
theorem dX10_tornPlaces_15 : decode cX10_tornPlaces 15 = .ok (.iload_n 3, 1) := by decide +kernel
theorem dX10_tornPlaces_16 : decode cX10_tornPlaces 16 = .ok (.invokevirtual 72, 3) := by decide +kernel
theorem dX10_tornPlaces_19 : decode cX10_tornPlaces 19 = .ok (.ifCond .eq 9, 3) := by decide +kernel
theorem dX10_tornPlaces_22 : decode cX10_tornPlaces 22 = .ok (.iload_n 2, 1) := by decide +kernel
theorem dX10_tornPlaces_23 : decode cX10_tornPlaces 23 = .ok (.iconst 1, 1) := by decide +kernel
theorem dX10_tornPlaces_24 : decode cX10_tornPlaces 24 = .ok (.iload_n 3, 1) := by decide +kernel
theorem dX10_tornPlaces_25 : decode cX10_tornPlaces 25 = .ok (.ishl, 1) := by decide +kernel
theorem dX10_tornPlaces_26 : decode cX10_tornPlaces 26 = .ok (.ior, 1) := by decide +kernel
theorem dX10_tornPlaces_27 : decode cX10_tornPlaces 27 = .ok (.istore_n 2, 1) := by decide +kernel
theorem dX10_tornPlaces_28 : decode cX10_tornPlaces 28 = .ok (.iinc 3 1, 3) := by decide +kernel
theorem dX10_tornPlaces_31 : decode cX10_tornPlaces 31 = .ok (.goto (-27), 3) := by decide +kernel
theorem dX10_tornPlaces_34 : decode cX10_tornPlaces 34 = .ok (.iload_n 2, 1) := by decide +kernel
theorem dX10_tornPlaces_35 : decode cX10_tornPlaces 35 = .ok (.ireturn, 1) := by decide +kernel
def m10_tornPlaces : pMT := (yX10_tornPlaces, cX10_tornPlaces, 4, some .int)
theorem mo10_tornPlaces : mOK m10_tornPlaces 1 := ⟨tb_i 936 (by decide +kernel), wi_RX10, ⟨wn_RX10.1, wn_RX10.2, by decide +kernel⟩, by decide, plainFor_of_name wp_RX10⟩
theorem mv10_tornPlaces : mV m10_tornPlaces := ⟨tb_i 934 (by decide +kernel), tb_i 935 (by decide +kernel)⟩
def f10_tornPlaces_c4 (n : Nat) (I : (Nat → Nat → Int32)) (O : (Nat → Nat → Option Nat)) : Nat → Nat → Int32 → Int32 → Int32 → Option (Int32)
  | 0, _, _, _, _ => none
  | m + 1, b0, y1, y2, y3 => (f10_size I O b0 y1).bind fun r1 => (if r1 ≤ y3 then some (y2) else (f10_isTorn I O b0 y1 y3).bind fun r4 => (if r4 = 0 then f10_tornPlaces_c4 n I O m b0 y1 y2 (y3 + 1) else bl ((y2 ||| ((1 : Int32) <<< (y3 &&& 31))) : Int32) fun z7 => f10_tornPlaces_c4 n I O m b0 y1 z7 (y3 + 1)))
set_option maxHeartbeats 4000000 in
set_option maxRecDepth 20000 in
theorem o10_tornPlaces_c4 {g : pG} {Qx : Option Value → pW → Prop} {Z : pZ} {I : (Nat → Nat → Int32)} {L : (Nat → Nat → Int64)} {O : (Nat → Nat → Option Nat)} {n : Nat} {res : Int32} (d : Nat) (hW : WT Z O) (hQ : Qx (some (.int res)) (Z, I, L, O)) : ∀ (m : Nat) (b0 : Nat) (y1 : Int32) (y2 : Int32) (y3 : Int32), (Z[b0]? = some (10, 5)) → f10_tornPlaces_c4 n I O m b0 y1 y2 y3 = some res → Ok g (d + 4, RX10, cX10_tornPlaces, 4, false, 0, 0, Z.length, pSl Z) Qx 4 [(0, .ref b0), (1, .int y1), (2, .int y2), (3, .int y3)] [] (Z, I, L, O) := by
  intro m
  induction m with
  | zero => intro b0 y1 y2 y3 hZ_b0 h; rw [f10_tornPlaces_c4] at h; cases h
  | succ m ih =>
    intro b0 y1 y2 y3 hZ_b0 h
    rw [f10_tornPlaces_c4] at h
    refine ok_iload_n dX10_tornPlaces_4 3 rfl ?_
    refine ok_aload_n dX10_tornPlaces_5 0 rfl ?_
    refine ok_iload_n dX10_tornPlaces_6 1 rfl ?_
    obtain ⟨r1, hr2, h⟩ := bd h
    refine ok_callV (d := ((d + 0) + 3)) (mt := m10_size) (mc := 0) (ms := 0) (As := [.int y1]) (r := [.int y3]) dX10_tornPlaces_7 mo10_size mv10_size lkRX10_68 rfl hZ_b0 (q := (RX10, TX10, 5)) rfl rfl rfl (Nat.le_of_ble_eq_true rfl) (by show _ + 1 ≤ d + _; omega) (Nat.le_refl _) (Nat.le_refl _) (pRt_mono ?_)
    refine k10_size (d + 0) hW hZ_b0 hr2 ?_
    intro _
    show Ok g _ Qx 10 [(0, .ref b0), (1, .int y1), (2, .int y2), (3, .int y3)] [.int r1, .int y3] (Z, I, L, O)
    refine ok_icmp_ge (t := 34) dX10_tornPlaces_10 (by decide) (fun hc3 => ?_) (fun hc3 => ?_)
    · have h := (if_pos hc3).symm.trans h
      refine ok_iload_n dX10_tornPlaces_34 2 rfl ?_
      cases h
      exact ok_iret dX10_tornPlaces_35 hQ
    · have h := (if_neg hc3).symm.trans h
      refine ok_aload_n dX10_tornPlaces_13 0 rfl ?_
      refine ok_iload_n dX10_tornPlaces_14 1 rfl ?_
      refine ok_iload_n dX10_tornPlaces_15 3 rfl ?_
      obtain ⟨r4, hr5, h⟩ := bd h
      refine ok_callV (d := ((d + 0) + 3)) (mt := m10_isTorn) (mc := 0) (ms := 0) (As := [.int y1, .int y3]) (r := []) dX10_tornPlaces_16 mo10_isTorn mv10_isTorn lkRX10_72 rfl hZ_b0 (q := (RX10, TX10, 5)) rfl rfl rfl (Nat.le_of_ble_eq_true rfl) (by show _ + 1 ≤ d + _; omega) (Nat.le_refl _) (Nat.le_refl _) (pRt_mono ?_)
      refine k10_isTorn (d + 0) hW hZ_b0 hr5 ?_
      intro hbr4
      show Ok g _ Qx 19 [(0, .ref b0), (1, .int y1), (2, .int y2), (3, .int y3)] [.int r4] (Z, I, L, O)
      refine ok_if_eq (t := 28) dX10_tornPlaces_19 (by decide) (fun hc6 => ?_) (fun hc6 => ?_)
      · have h := (if_pos hc6).symm.trans h
        refine ok_iinc (u := (y3 + 1)) (l' := [(3, .int (y3 + 1)), (0, .ref b0), (1, .int y1), (2, .int y2)]) dX10_tornPlaces_28 3 rfl rfl (Nat.le_of_ble_eq_true rfl) rfl ?_
        refine ok_goto (t := 4) dX10_tornPlaces_31 (by decide) ?_
        refine ok_sub [1, 2, 3, 0] rfl ?_
        exact ih b0 y1 y2 (y3 + 1) hZ_b0 h
      · have h := (if_neg hc6).symm.trans h
        refine ok_iload_n dX10_tornPlaces_22 2 rfl ?_
        refine ok_iconst (v := 1) dX10_tornPlaces_23 (by decide) ?_
        refine ok_iload_n dX10_tornPlaces_24 3 rfl ?_
        refine ok_ishl dX10_tornPlaces_25 ?_
        refine ok_ior dX10_tornPlaces_26 ?_
        obtain ⟨z7, ez7, h⟩ := blE h
        refine ok_nm ez7 ?_
        refine ok_istore_n (l' := [(2, .int z7), (0, .ref b0), (1, .int y1), (3, .int y3)]) dX10_tornPlaces_27 rfl (Nat.le_of_ble_eq_true rfl) rfl ?_
        refine ok_iinc (u := (y3 + 1)) (l' := [(3, .int (y3 + 1)), (2, .int z7), (0, .ref b0), (1, .int y1)]) dX10_tornPlaces_28 3 rfl rfl (Nat.le_of_ble_eq_true rfl) rfl ?_
        refine ok_goto (t := 4) dX10_tornPlaces_31 (by decide) ?_
        refine ok_sub [2, 3, 1, 0] rfl ?_
        exact ih b0 y1 z7 (y3 + 1) hZ_b0 h
def f10_tornPlaces (n : Nat) (I : (Nat → Nat → Int32)) (O : (Nat → Nat → Option Nat)) (a0 : Nat) (x1 : Int32) : Option (Int32) := f10_tornPlaces_c4 n I O n a0 x1 (0 : Int32) (0 : Int32)
set_option maxHeartbeats 4000000 in
set_option maxRecDepth 20000 in
theorem o10_tornPlaces {g : pG} {Qx : Option Value → pW → Prop} {Z : pZ} {I : (Nat → Nat → Int32)} {L : (Nat → Nat → Int64)} {O : (Nat → Nat → Option Nat)} {n : Nat} {a0 : Nat} {x1 : Int32} {res : Int32} (d : Nat) (hW : WT Z O) (hZ0 : Z[a0]? = some (10, 5)) (h : f10_tornPlaces n I O a0 x1 = some res) (hQ : Qx (some (.int res)) (Z, I, L, O)) : Ok g (d + 4, RX10, cX10_tornPlaces, 4, false, 0, 0, Z.length, pSl Z) Qx 0 [(0, .ref a0), (1, .int x1)] [] (Z, I, L, O) := by
  unfold f10_tornPlaces at h
  refine ok_iconst (v := 0) dX10_tornPlaces_0 (by decide) ?_
  refine ok_istore_n (l' := [(2, .int 0), (0, .ref a0), (1, .int x1)]) dX10_tornPlaces_1 rfl (Nat.le_of_ble_eq_true rfl) rfl ?_
  refine ok_iconst (v := 0) dX10_tornPlaces_2 (by decide) ?_
  refine ok_istore_n (l' := [(3, .int 0), (2, .int 0), (0, .ref a0), (1, .int x1)]) dX10_tornPlaces_3 rfl (Nat.le_of_ble_eq_true rfl) rfl ?_
  refine ok_sub [2, 3, 1, 0] rfl ?_
  exact o10_tornPlaces_c4 d hW hQ  n a0 x1 (0 : Int32) (0 : Int32) hZ0 h
theorem k10_tornPlaces {g : pG} {Q : Option Value → pW → Prop} {Z : pZ} {I : (Nat → Nat → Int32)} {L : (Nat → Nat → Int64)} {O : (Nat → Nat → Option Nat)} {n : Nat} {a0 : Nat} {x1 : Int32} {res : Int32} (d : Nat) (hW : WT Z O) (hZ0 : Z[a0]? = some (10, 5)) (h : f10_tornPlaces n I O a0 x1 = some res) (hQ : Q (some (.int res)) (Z, I, L, O)) : CT g (d + 4) m10_tornPlaces 0 0 [.ref a0, .int x1] (Z, I, L, O) Q :=
  ct_of_ok (mt := m10_tornPlaces) (ini := false) mo10_tornPlaces.2.2.2.2 (fun h => by cases h) (Nat.le_of_ble_eq_true rfl) (o10_tornPlaces d hW hZ0 h ⟨trivial, hQ, rfl, rfl⟩)
theorem dX10_keysIn_0 : decode cX10_keysIn 0 = .ok (.iconst 0, 1) := by decide +kernel
theorem dX10_keysIn_1 : decode cX10_keysIn 1 = .ok (.istore_n 2, 1) := by decide +kernel
theorem dX10_keysIn_2 : decode cX10_keysIn 2 = .ok (.iconst 0, 1) := by decide +kernel
theorem dX10_keysIn_3 : decode cX10_keysIn 3 = .ok (.istore_n 3, 1) := by decide +kernel
theorem dX10_keysIn_4 : decode cX10_keysIn 4 = .ok (.iload_n 3, 1) := by decide +kernel
theorem dX10_keysIn_5 : decode cX10_keysIn 5 = .ok (.aload_n 0, 1) := by decide +kernel
theorem dX10_keysIn_6 : decode cX10_keysIn 6 = .ok (.iload_n 1, 1) := by decide +kernel
theorem dX10_keysIn_7 : decode cX10_keysIn 7 = .ok (.invokevirtual 68, 3) := by decide +kernel
theorem dX10_keysIn_10 : decode cX10_keysIn 10 = .ok (.if_icmp .ge 29, 3) := by decide +kernel
theorem dX10_keysIn_13 : decode cX10_keysIn 13 = .ok (.aload_n 0, 1) := by decide +kernel
theorem dX10_keysIn_14 : decode cX10_keysIn 14 = .ok (.iload_n 1, 1) := by decide +kernel
theorem dX10_keysIn_15 : decode cX10_keysIn 15 = .ok (.iload_n 3, 1) := by decide +kernel
theorem dX10_keysIn_16 : decode cX10_keysIn 16 = .ok (.invokevirtual 75, 3) := by decide +kernel
theorem dX10_keysIn_19 : decode cX10_keysIn 19 = .ok (.ifCond .eq 14, 3) := by decide +kernel
theorem dX10_keysIn_22 : decode cX10_keysIn 22 = .ok (.iload_n 2, 1) := by decide +kernel
theorem dX10_keysIn_23 : decode cX10_keysIn 23 = .ok (.iconst 1, 1) := by decide +kernel
theorem dX10_keysIn_24 : decode cX10_keysIn 24 = .ok (.aload_n 0, 1) := by decide +kernel
theorem dX10_keysIn_25 : decode cX10_keysIn 25 = .ok (.iload_n 1, 1) := by decide +kernel
theorem dX10_keysIn_26 : decode cX10_keysIn 26 = .ok (.iload_n 3, 1) := by decide +kernel
theorem dX10_keysIn_27 : decode cX10_keysIn 27 = .ok (.invokevirtual 75, 3) := by decide +kernel
theorem dX10_keysIn_30 : decode cX10_keysIn 30 = .ok (.ishl, 1) := by decide +kernel
theorem dX10_keysIn_31 : decode cX10_keysIn 31 = .ok (.ior, 1) := by decide +kernel
theorem dX10_keysIn_32 : decode cX10_keysIn 32 = .ok (.istore_n 2, 1) := by decide +kernel
theorem dX10_keysIn_33 : decode cX10_keysIn 33 = .ok (.iinc 3 1, 3) := by decide +kernel
theorem dX10_keysIn_36 : decode cX10_keysIn 36 = .ok (.goto (-32), 3) := by decide +kernel
theorem dX10_keysIn_39 : decode cX10_keysIn 39 = .ok (.iload_n 2, 1) := by decide +kernel
theorem dX10_keysIn_40 : decode cX10_keysIn 40 = .ok (.ireturn, 1) := by decide +kernel
def m10_keysIn : pMT := (yX10_keysIn, cX10_keysIn, 4, some .int)
theorem mo10_keysIn : mOK m10_keysIn 1 := ⟨tb_i 945 (by decide +kernel), wi_RX10, ⟨wn_RX10.1, wn_RX10.2, by decide +kernel⟩, by decide, plainFor_of_name wp_RX10⟩
theorem mv10_keysIn : mV m10_keysIn := ⟨tb_i 943 (by decide +kernel), tb_i 944 (by decide +kernel)⟩
def f10_keysIn_c4 (n : Nat) (I : (Nat → Nat → Int32)) (O : (Nat → Nat → Option Nat)) : Nat → Nat → Int32 → Int32 → Int32 → Option (Int32)
  | 0, _, _, _, _ => none
  | m + 1, b0, y1, y2, y3 => (f10_size I O b0 y1).bind fun r1 => (if r1 ≤ y3 then some (y2) else (f10_keyAt I O b0 y1 y3).bind fun r4 => (if r4 = 0 then f10_keysIn_c4 n I O m b0 y1 y2 (y3 + 1) else (f10_keyAt I O b0 y1 y3).bind fun r7 => bl ((y2 ||| ((1 : Int32) <<< (r7 &&& 31))) : Int32) fun z9 => f10_keysIn_c4 n I O m b0 y1 z9 (y3 + 1)))
set_option maxHeartbeats 4000000 in
set_option maxRecDepth 20000 in
theorem o10_keysIn_c4 {g : pG} {Qx : Option Value → pW → Prop} {Z : pZ} {I : (Nat → Nat → Int32)} {L : (Nat → Nat → Int64)} {O : (Nat → Nat → Option Nat)} {n : Nat} {res : Int32} (d : Nat) (hW : WT Z O) (hQ : Qx (some (.int res)) (Z, I, L, O)) : ∀ (m : Nat) (b0 : Nat) (y1 : Int32) (y2 : Int32) (y3 : Int32), (Z[b0]? = some (10, 5)) → f10_keysIn_c4 n I O m b0 y1 y2 y3 = some res → Ok g (d + 4, RX10, cX10_keysIn, 4, false, 0, 0, Z.length, pSl Z) Qx 4 [(0, .ref b0), (1, .int y1), (2, .int y2), (3, .int y3)] [] (Z, I, L, O) := by
  intro m
  induction m with
  | zero => intro b0 y1 y2 y3 hZ_b0 h; rw [f10_keysIn_c4] at h; cases h
  | succ m ih =>
    intro b0 y1 y2 y3 hZ_b0 h
    rw [f10_keysIn_c4] at h
    refine ok_iload_n dX10_keysIn_4 3 rfl ?_
    refine ok_aload_n dX10_keysIn_5 0 rfl ?_
    refine ok_iload_n dX10_keysIn_6 1 rfl ?_
    obtain ⟨r1, hr2, h⟩ := bd h
    refine ok_callV (d := ((d + 0) + 3)) (mt := m10_size) (mc := 0) (ms := 0) (As := [.int y1]) (r := [.int y3]) dX10_keysIn_7 mo10_size mv10_size lkRX10_68 rfl hZ_b0 (q := (RX10, TX10, 5)) rfl rfl rfl (Nat.le_of_ble_eq_true rfl) (by show _ + 1 ≤ d + _; omega) (Nat.le_refl _) (Nat.le_refl _) (pRt_mono ?_)
    refine k10_size (d + 0) hW hZ_b0 hr2 ?_
    intro _
    show Ok g _ Qx 10 [(0, .ref b0), (1, .int y1), (2, .int y2), (3, .int y3)] [.int r1, .int y3] (Z, I, L, O)
    refine ok_icmp_ge (t := 39) dX10_keysIn_10 (by decide) (fun hc3 => ?_) (fun hc3 => ?_)
    · have h := (if_pos hc3).symm.trans h
      refine ok_iload_n dX10_keysIn_39 2 rfl ?_
      cases h
      exact ok_iret dX10_keysIn_40 hQ
    · have h := (if_neg hc3).symm.trans h
      refine ok_aload_n dX10_keysIn_13 0 rfl ?_
      refine ok_iload_n dX10_keysIn_14 1 rfl ?_
      refine ok_iload_n dX10_keysIn_15 3 rfl ?_
      obtain ⟨r4, hr5, h⟩ := bd h
      refine ok_callV (d := ((d + 0) + 3)) (mt := m10_keyAt) (mc := 0) (ms := 0) (As := [.int y1, .int y3]) (r := []) dX10_keysIn_16 mo10_keyAt mv10_keyAt lkRX10_75 rfl hZ_b0 (q := (RX10, TX10, 5)) rfl rfl rfl (Nat.le_of_ble_eq_true rfl) (by show _ + 1 ≤ d + _; omega) (Nat.le_refl _) (Nat.le_refl _) (pRt_mono ?_)
      refine k10_keyAt (d + 0) hW hZ_b0 hr5 ?_
      intro _
      show Ok g _ Qx 19 [(0, .ref b0), (1, .int y1), (2, .int y2), (3, .int y3)] [.int r4] (Z, I, L, O)
      refine ok_if_eq (t := 33) dX10_keysIn_19 (by decide) (fun hc6 => ?_) (fun hc6 => ?_)
      · have h := (if_pos hc6).symm.trans h
        refine ok_iinc (u := (y3 + 1)) (l' := [(3, .int (y3 + 1)), (0, .ref b0), (1, .int y1), (2, .int y2)]) dX10_keysIn_33 3 rfl rfl (Nat.le_of_ble_eq_true rfl) rfl ?_
        refine ok_goto (t := 4) dX10_keysIn_36 (by decide) ?_
        refine ok_sub [1, 2, 3, 0] rfl ?_
        exact ih b0 y1 y2 (y3 + 1) hZ_b0 h
      · have h := (if_neg hc6).symm.trans h
        refine ok_iload_n dX10_keysIn_22 2 rfl ?_
        refine ok_iconst (v := 1) dX10_keysIn_23 (by decide) ?_
        refine ok_aload_n dX10_keysIn_24 0 rfl ?_
        refine ok_iload_n dX10_keysIn_25 1 rfl ?_
        refine ok_iload_n dX10_keysIn_26 3 rfl ?_
        obtain ⟨r7, hr8, h⟩ := bd h
        refine ok_callV (d := ((d + 0) + 3)) (mt := m10_keyAt) (mc := 0) (ms := 0) (As := [.int y1, .int y3]) (r := [.int 1, .int y2]) dX10_keysIn_27 mo10_keyAt mv10_keyAt lkRX10_75 rfl hZ_b0 (q := (RX10, TX10, 5)) rfl rfl rfl (Nat.le_of_ble_eq_true rfl) (by show _ + 1 ≤ d + _; omega) (Nat.le_refl _) (Nat.le_refl _) (pRt_mono ?_)
        refine k10_keyAt (d + 0) hW hZ_b0 hr8 ?_
        intro _
        show Ok g _ Qx 30 [(0, .ref b0), (1, .int y1), (2, .int y2), (3, .int y3)] [.int r7, .int 1, .int y2] (Z, I, L, O)
        refine ok_ishl dX10_keysIn_30 ?_
        refine ok_ior dX10_keysIn_31 ?_
        obtain ⟨z9, ez9, h⟩ := blE h
        refine ok_nm ez9 ?_
        refine ok_istore_n (l' := [(2, .int z9), (0, .ref b0), (1, .int y1), (3, .int y3)]) dX10_keysIn_32 rfl (Nat.le_of_ble_eq_true rfl) rfl ?_
        refine ok_iinc (u := (y3 + 1)) (l' := [(3, .int (y3 + 1)), (2, .int z9), (0, .ref b0), (1, .int y1)]) dX10_keysIn_33 3 rfl rfl (Nat.le_of_ble_eq_true rfl) rfl ?_
        refine ok_goto (t := 4) dX10_keysIn_36 (by decide) ?_
        refine ok_sub [2, 3, 1, 0] rfl ?_
        exact ih b0 y1 z9 (y3 + 1) hZ_b0 h
def f10_keysIn (n : Nat) (I : (Nat → Nat → Int32)) (O : (Nat → Nat → Option Nat)) (a0 : Nat) (x1 : Int32) : Option (Int32) := f10_keysIn_c4 n I O n a0 x1 (0 : Int32) (0 : Int32)
set_option maxHeartbeats 4000000 in
set_option maxRecDepth 20000 in
theorem o10_keysIn {g : pG} {Qx : Option Value → pW → Prop} {Z : pZ} {I : (Nat → Nat → Int32)} {L : (Nat → Nat → Int64)} {O : (Nat → Nat → Option Nat)} {n : Nat} {a0 : Nat} {x1 : Int32} {res : Int32} (d : Nat) (hW : WT Z O) (hZ0 : Z[a0]? = some (10, 5)) (h : f10_keysIn n I O a0 x1 = some res) (hQ : Qx (some (.int res)) (Z, I, L, O)) : Ok g (d + 4, RX10, cX10_keysIn, 4, false, 0, 0, Z.length, pSl Z) Qx 0 [(0, .ref a0), (1, .int x1)] [] (Z, I, L, O) := by
  unfold f10_keysIn at h
  refine ok_iconst (v := 0) dX10_keysIn_0 (by decide) ?_
  refine ok_istore_n (l' := [(2, .int 0), (0, .ref a0), (1, .int x1)]) dX10_keysIn_1 rfl (Nat.le_of_ble_eq_true rfl) rfl ?_
  refine ok_iconst (v := 0) dX10_keysIn_2 (by decide) ?_
  refine ok_istore_n (l' := [(3, .int 0), (2, .int 0), (0, .ref a0), (1, .int x1)]) dX10_keysIn_3 rfl (Nat.le_of_ble_eq_true rfl) rfl ?_
  refine ok_sub [2, 3, 1, 0] rfl ?_
  exact o10_keysIn_c4 d hW hQ  n a0 x1 (0 : Int32) (0 : Int32) hZ0 h
theorem k10_keysIn {g : pG} {Q : Option Value → pW → Prop} {Z : pZ} {I : (Nat → Nat → Int32)} {L : (Nat → Nat → Int64)} {O : (Nat → Nat → Option Nat)} {n : Nat} {a0 : Nat} {x1 : Int32} {res : Int32} (d : Nat) (hW : WT Z O) (hZ0 : Z[a0]? = some (10, 5)) (h : f10_keysIn n I O a0 x1 = some res) (hQ : Q (some (.int res)) (Z, I, L, O)) : CT g (d + 4) m10_keysIn 0 0 [.ref a0, .int x1] (Z, I, L, O) Q :=
  ct_of_ok (mt := m10_keysIn) (ini := false) mo10_keysIn.2.2.2.2 (fun h => by cases h) (Nat.le_of_ble_eq_true rfl) (o10_keysIn d hW hZ0 h ⟨trivial, hQ, rfl, rfl⟩)
theorem dX10_allWear_0 : decode cX10_allWear 0 = .ok (.iconst 0, 1) := by decide +kernel
theorem dX10_allWear_1 : decode cX10_allWear 1 = .ok (.istore_n 2, 1) := by decide +kernel
theorem dX10_allWear_2 : decode cX10_allWear 2 = .ok (.iconst 0, 1) := by decide +kernel
theorem dX10_allWear_3 : decode cX10_allWear 3 = .ok (.istore_n 3, 1) := by decide +kernel
theorem dX10_allWear_4 : decode cX10_allWear 4 = .ok (.iload_n 3, 1) := by decide +kernel
theorem dX10_allWear_5 : decode cX10_allWear 5 = .ok (.aload_n 0, 1) := by decide +kernel
theorem dX10_allWear_6 : decode cX10_allWear 6 = .ok (.iload_n 1, 1) := by decide +kernel
theorem dX10_allWear_7 : decode cX10_allWear 7 = .ok (.invokevirtual 68, 3) := by decide +kernel
theorem dX10_allWear_10 : decode cX10_allWear 10 = .ok (.if_icmp .ge 18, 3) := by decide +kernel
theorem dX10_allWear_13 : decode cX10_allWear 13 = .ok (.iload_n 2, 1) := by decide +kernel
theorem dX10_allWear_14 : decode cX10_allWear 14 = .ok (.aload_n 0, 1) := by decide +kernel
theorem dX10_allWear_15 : decode cX10_allWear 15 = .ok (.iload_n 1, 1) := by decide +kernel
theorem dX10_allWear_16 : decode cX10_allWear 16 = .ok (.iload_n 3, 1) := by decide +kernel
theorem dX10_allWear_17 : decode cX10_allWear 17 = .ok (.invokevirtual 78, 3) := by decide +kernel
theorem dX10_allWear_20 : decode cX10_allWear 20 = .ok (.iadd, 1) := by decide +kernel
theorem dX10_allWear_21 : decode cX10_allWear 21 = .ok (.istore_n 2, 1) := by decide +kernel
theorem dX10_allWear_22 : decode cX10_allWear 22 = .ok (.iinc 3 1, 3) := by decide +kernel
theorem dX10_allWear_25 : decode cX10_allWear 25 = .ok (.goto (-21), 3) := by decide +kernel
theorem dX10_allWear_28 : decode cX10_allWear 28 = .ok (.iload_n 2, 1) := by decide +kernel
theorem dX10_allWear_29 : decode cX10_allWear 29 = .ok (.ireturn, 1) := by decide +kernel
def m10_allWear : pMT := (yX10_allWear, cX10_allWear, 4, some .int)
theorem mo10_allWear : mOK m10_allWear 1 := ⟨tb_i 1255 (by decide +kernel), wi_RX10, ⟨wn_RX10.1, wn_RX10.2, by decide +kernel⟩, by decide, plainFor_of_name wp_RX10⟩
theorem mv10_allWear : mV m10_allWear := ⟨tb_i 1253 (by decide +kernel), tb_i 1254 (by decide +kernel)⟩
def f10_allWear_c4 (n : Nat) (I : (Nat → Nat → Int32)) (O : (Nat → Nat → Option Nat)) : Nat → Nat → Int32 → Int32 → Int32 → Option (Int32)
  | 0, _, _, _, _ => none
  | m + 1, b0, y1, y2, y3 => (f10_size I O b0 y1).bind fun r1 => (if r1 ≤ y3 then some (y2) else (f10_wearAt I O b0 y1 y3).bind fun r4 => f10_allWear_c4 n I O m b0 y1 (y2 + r4) (y3 + 1))
set_option maxHeartbeats 4000000 in
set_option maxRecDepth 20000 in
theorem o10_allWear_c4 {g : pG} {Qx : Option Value → pW → Prop} {Z : pZ} {I : (Nat → Nat → Int32)} {L : (Nat → Nat → Int64)} {O : (Nat → Nat → Option Nat)} {n : Nat} {res : Int32} (d : Nat) (hW : WT Z O) (hQ : Qx (some (.int res)) (Z, I, L, O)) : ∀ (m : Nat) (b0 : Nat) (y1 : Int32) (y2 : Int32) (y3 : Int32), (Z[b0]? = some (10, 5)) → f10_allWear_c4 n I O m b0 y1 y2 y3 = some res → Ok g (d + 4, RX10, cX10_allWear, 4, false, 0, 0, Z.length, pSl Z) Qx 4 [(0, .ref b0), (1, .int y1), (2, .int y2), (3, .int y3)] [] (Z, I, L, O) := by
  intro m
  induction m with
  | zero => intro b0 y1 y2 y3 hZ_b0 h; rw [f10_allWear_c4] at h; cases h
  | succ m ih =>
    intro b0 y1 y2 y3 hZ_b0 h
    rw [f10_allWear_c4] at h
    refine ok_iload_n dX10_allWear_4 3 rfl ?_
    refine ok_aload_n dX10_allWear_5 0 rfl ?_
    refine ok_iload_n dX10_allWear_6 1 rfl ?_
    obtain ⟨r1, hr2, h⟩ := bd h
    refine ok_callV (d := ((d + 0) + 3)) (mt := m10_size) (mc := 0) (ms := 0) (As := [.int y1]) (r := [.int y3]) dX10_allWear_7 mo10_size mv10_size lkRX10_68 rfl hZ_b0 (q := (RX10, TX10, 5)) rfl rfl rfl (Nat.le_of_ble_eq_true rfl) (by show _ + 1 ≤ d + _; omega) (Nat.le_refl _) (Nat.le_refl _) (pRt_mono ?_)
    refine k10_size (d + 0) hW hZ_b0 hr2 ?_
    intro _
    show Ok g _ Qx 10 [(0, .ref b0), (1, .int y1), (2, .int y2), (3, .int y3)] [.int r1, .int y3] (Z, I, L, O)
    refine ok_icmp_ge (t := 28) dX10_allWear_10 (by decide) (fun hc3 => ?_) (fun hc3 => ?_)
    · have h := (if_pos hc3).symm.trans h
      refine ok_iload_n dX10_allWear_28 2 rfl ?_
      cases h
      exact ok_iret dX10_allWear_29 hQ
    · have h := (if_neg hc3).symm.trans h
      refine ok_iload_n dX10_allWear_13 2 rfl ?_
      refine ok_aload_n dX10_allWear_14 0 rfl ?_
      refine ok_iload_n dX10_allWear_15 1 rfl ?_
      refine ok_iload_n dX10_allWear_16 3 rfl ?_
      obtain ⟨r4, hr5, h⟩ := bd h
      refine ok_callV (d := ((d + 0) + 3)) (mt := m10_wearAt) (mc := 0) (ms := 0) (As := [.int y1, .int y3]) (r := [.int y2]) dX10_allWear_17 mo10_wearAt mv10_wearAt lkRX10_78 rfl hZ_b0 (q := (RX10, TX10, 5)) rfl rfl rfl (Nat.le_of_ble_eq_true rfl) (by show _ + 1 ≤ d + _; omega) (Nat.le_refl _) (Nat.le_refl _) (pRt_mono ?_)
      refine k10_wearAt (d + 0) hW hZ_b0 hr5 ?_
      intro _
      show Ok g _ Qx 20 [(0, .ref b0), (1, .int y1), (2, .int y2), (3, .int y3)] [.int r4, .int y2] (Z, I, L, O)
      refine ok_iadd dX10_allWear_20 ?_
      refine ok_istore_n (l' := [(2, .int (y2 + r4)), (0, .ref b0), (1, .int y1), (3, .int y3)]) dX10_allWear_21 rfl (Nat.le_of_ble_eq_true rfl) rfl ?_
      refine ok_iinc (u := (y3 + 1)) (l' := [(3, .int (y3 + 1)), (2, .int (y2 + r4)), (0, .ref b0), (1, .int y1)]) dX10_allWear_22 3 rfl rfl (Nat.le_of_ble_eq_true rfl) rfl ?_
      refine ok_goto (t := 4) dX10_allWear_25 (by decide) ?_
      refine ok_sub [2, 3, 1, 0] rfl ?_
      exact ih b0 y1 (y2 + r4) (y3 + 1) hZ_b0 h
def f10_allWear (n : Nat) (I : (Nat → Nat → Int32)) (O : (Nat → Nat → Option Nat)) (a0 : Nat) (x1 : Int32) : Option (Int32) := f10_allWear_c4 n I O n a0 x1 (0 : Int32) (0 : Int32)
set_option maxHeartbeats 4000000 in
set_option maxRecDepth 20000 in
theorem o10_allWear {g : pG} {Qx : Option Value → pW → Prop} {Z : pZ} {I : (Nat → Nat → Int32)} {L : (Nat → Nat → Int64)} {O : (Nat → Nat → Option Nat)} {n : Nat} {a0 : Nat} {x1 : Int32} {res : Int32} (d : Nat) (hW : WT Z O) (hZ0 : Z[a0]? = some (10, 5)) (h : f10_allWear n I O a0 x1 = some res) (hQ : Qx (some (.int res)) (Z, I, L, O)) : Ok g (d + 4, RX10, cX10_allWear, 4, false, 0, 0, Z.length, pSl Z) Qx 0 [(0, .ref a0), (1, .int x1)] [] (Z, I, L, O) := by
  unfold f10_allWear at h
  refine ok_iconst (v := 0) dX10_allWear_0 (by decide) ?_
  refine ok_istore_n (l' := [(2, .int 0), (0, .ref a0), (1, .int x1)]) dX10_allWear_1 rfl (Nat.le_of_ble_eq_true rfl) rfl ?_
  refine ok_iconst (v := 0) dX10_allWear_2 (by decide) ?_
  refine ok_istore_n (l' := [(3, .int 0), (2, .int 0), (0, .ref a0), (1, .int x1)]) dX10_allWear_3 rfl (Nat.le_of_ble_eq_true rfl) rfl ?_
  refine ok_sub [2, 3, 1, 0] rfl ?_
  exact o10_allWear_c4 d hW hQ  n a0 x1 (0 : Int32) (0 : Int32) hZ0 h
theorem k10_allWear {g : pG} {Q : Option Value → pW → Prop} {Z : pZ} {I : (Nat → Nat → Int32)} {L : (Nat → Nat → Int64)} {O : (Nat → Nat → Option Nat)} {n : Nat} {a0 : Nat} {x1 : Int32} {res : Int32} (d : Nat) (hW : WT Z O) (hZ0 : Z[a0]? = some (10, 5)) (h : f10_allWear n I O a0 x1 = some res) (hQ : Q (some (.int res)) (Z, I, L, O)) : CT g (d + 4) m10_allWear 0 0 [.ref a0, .int x1] (Z, I, L, O) Q :=
  ct_of_ok (mt := m10_allWear) (ini := false) mo10_allWear.2.2.2.2 (fun h => by cases h) (Nat.le_of_ble_eq_true rfl) (o10_allWear d hW hZ0 h ⟨trivial, hQ, rfl, rfl⟩)
theorem dX10_isDumb_0 : decode cX10_isDumb 0 = .ok (.iconst 0, 1) := by decide +kernel
theorem dX10_isDumb_1 : decode cX10_isDumb 1 = .ok (.istore_n 2, 1) := by decide +kernel
theorem dX10_isDumb_2 : decode cX10_isDumb 2 = .ok (.iload_n 2, 1) := by decide +kernel
theorem dX10_isDumb_3 : decode cX10_isDumb 3 = .ok (.aload_n 0, 1) := by decide +kernel
theorem dX10_isDumb_4 : decode cX10_isDumb 4 = .ok (.iload_n 1, 1) := by decide +kernel
theorem dX10_isDumb_5 : decode cX10_isDumb 5 = .ok (.invokevirtual 68, 3) := by decide +kernel
theorem dX10_isDumb_8 : decode cX10_isDumb 8 = .ok (.if_icmp .ge 20, 3) := by decide +kernel
theorem dX10_isDumb_11 : decode cX10_isDumb 11 = .ok (.aload_n 0, 1) := by decide +kernel
theorem dX10_isDumb_12 : decode cX10_isDumb 12 = .ok (.iload_n 1, 1) := by decide +kernel
theorem dX10_isDumb_13 : decode cX10_isDumb 13 = .ok (.iload_n 2, 1) := by decide +kernel
theorem dX10_isDumb_14 : decode cX10_isDumb 14 = .ok (.invokevirtual 81, 3) := by decide +kernel
theorem dX10_isDumb_17 : decode cX10_isDumb 17 = .ok (.ifCond .eq 5, 3) := by decide +kernel
theorem dX10_isDumb_20 : decode cX10_isDumb 20 = .ok (.iconst 0, 1) := by decide +kernel
theorem dX10_isDumb_21 : decode cX10_isDumb 21 = .ok (.ireturn, 1) := by decide +kernel
theorem dX10_isDumb_22 : decode cX10_isDumb 22 = .ok (.iinc 2 1, 3) := by decide +kernel
theorem dX10_isDumb_25 : decode cX10_isDumb 25 = .ok (.goto (-23), 3) := by decide +kernel
theorem dX10_isDumb_28 : decode cX10_isDumb 28 = .ok (.iconst 1, 1) := by decide +kernel
theorem dX10_isDumb_29 : decode cX10_isDumb 29 = .ok (.ireturn, 1) := by decide +kernel
def m10_isDumb : pMT := (yX10_isDumb, cX10_isDumb, 3, some .boolean)
theorem mo10_isDumb : mOK m10_isDumb 1 := ⟨tb_i 1264 (by decide +kernel), wi_RX10, ⟨wn_RX10.1, wn_RX10.2, by decide +kernel⟩, by decide, plainFor_of_name wp_RX10⟩
theorem mv10_isDumb : mV m10_isDumb := ⟨tb_i 1262 (by decide +kernel), tb_i 1263 (by decide +kernel)⟩
def f10_isDumb_c2 (n : Nat) (I : (Nat → Nat → Int32)) (O : (Nat → Nat → Option Nat)) : Nat → Nat → Int32 → Int32 → Option (Int32)
  | 0, _, _, _ => none
  | m + 1, b0, y1, y2 => (f10_size I O b0 y1).bind fun r1 => (if r1 ≤ y2 then some ((1 : Int32)) else (f10_sounds I O b0 y1 y2).bind fun r4 => (if r4 = 0 then f10_isDumb_c2 n I O m b0 y1 (y2 + 1) else some ((0 : Int32))))
set_option maxHeartbeats 4000000 in
set_option maxRecDepth 20000 in
theorem o10_isDumb_c2 {g : pG} {Qx : Option Value → pW → Prop} {Z : pZ} {I : (Nat → Nat → Int32)} {L : (Nat → Nat → Int64)} {O : (Nat → Nat → Option Nat)} {n : Nat} {res : Int32} (d : Nat) (hW : WT Z O) (hQ : (res = 0 ∨ res = 1) → Qx (some (.int res)) (Z, I, L, O)) : ∀ (m : Nat) (b0 : Nat) (y1 : Int32) (y2 : Int32), (Z[b0]? = some (10, 5)) → f10_isDumb_c2 n I O m b0 y1 y2 = some res → Ok g (d + 4, RX10, cX10_isDumb, 3, false, 0, 0, Z.length, pSl Z) Qx 2 [(0, .ref b0), (1, .int y1), (2, .int y2)] [] (Z, I, L, O) := by
  intro m
  induction m with
  | zero => intro b0 y1 y2 hZ_b0 h; rw [f10_isDumb_c2] at h; cases h
  | succ m ih =>
    intro b0 y1 y2 hZ_b0 h
    rw [f10_isDumb_c2] at h
    refine ok_iload_n dX10_isDumb_2 2 rfl ?_
    refine ok_aload_n dX10_isDumb_3 0 rfl ?_
    refine ok_iload_n dX10_isDumb_4 1 rfl ?_
    obtain ⟨r1, hr2, h⟩ := bd h
    refine ok_callV (d := ((d + 0) + 3)) (mt := m10_size) (mc := 0) (ms := 0) (As := [.int y1]) (r := [.int y2]) dX10_isDumb_5 mo10_size mv10_size lkRX10_68 rfl hZ_b0 (q := (RX10, TX10, 5)) rfl rfl rfl (Nat.le_of_ble_eq_true rfl) (by show _ + 1 ≤ d + _; omega) (Nat.le_refl _) (Nat.le_refl _) (pRt_mono ?_)
    refine k10_size (d + 0) hW hZ_b0 hr2 ?_
    intro _
    show Ok g _ Qx 8 [(0, .ref b0), (1, .int y1), (2, .int y2)] [.int r1, .int y2] (Z, I, L, O)
    refine ok_icmp_ge (t := 28) dX10_isDumb_8 (by decide) (fun hc3 => ?_) (fun hc3 => ?_)
    · have h := (if_pos hc3).symm.trans h
      refine ok_iconst (v := 1) dX10_isDumb_28 (by decide) ?_
      cases h
      exact ok_iret dX10_isDumb_29 (hQ (Or.inr rfl))
    · have h := (if_neg hc3).symm.trans h
      refine ok_aload_n dX10_isDumb_11 0 rfl ?_
      refine ok_iload_n dX10_isDumb_12 1 rfl ?_
      refine ok_iload_n dX10_isDumb_13 2 rfl ?_
      obtain ⟨r4, hr5, h⟩ := bd h
      refine ok_callV (d := ((d + 0) + 3)) (mt := m10_sounds) (mc := 0) (ms := 0) (As := [.int y1, .int y2]) (r := []) dX10_isDumb_14 mo10_sounds mv10_sounds lkRX10_81 rfl hZ_b0 (q := (RX10, TX10, 5)) rfl rfl rfl (Nat.le_of_ble_eq_true rfl) (by show _ + 1 ≤ d + _; omega) (Nat.le_refl _) (Nat.le_refl _) (pRt_mono ?_)
      refine k10_sounds (d + 0) hW hZ_b0 hr5 ?_
      intro hbr4
      show Ok g _ Qx 17 [(0, .ref b0), (1, .int y1), (2, .int y2)] [.int r4] (Z, I, L, O)
      refine ok_if_eq (t := 22) dX10_isDumb_17 (by decide) (fun hc6 => ?_) (fun hc6 => ?_)
      · have h := (if_pos hc6).symm.trans h
        refine ok_iinc (u := (y2 + 1)) (l' := [(2, .int (y2 + 1)), (0, .ref b0), (1, .int y1)]) dX10_isDumb_22 2 rfl rfl (Nat.le_of_ble_eq_true rfl) rfl ?_
        refine ok_goto (t := 2) dX10_isDumb_25 (by decide) ?_
        refine ok_sub [1, 2, 0] rfl ?_
        exact ih b0 y1 (y2 + 1) hZ_b0 h
      · have h := (if_neg hc6).symm.trans h
        refine ok_iconst (v := 0) dX10_isDumb_20 (by decide) ?_
        cases h
        exact ok_iret dX10_isDumb_21 (hQ (Or.inl rfl))
def f10_isDumb (n : Nat) (I : (Nat → Nat → Int32)) (O : (Nat → Nat → Option Nat)) (a0 : Nat) (x1 : Int32) : Option (Int32) := f10_isDumb_c2 n I O n a0 x1 (0 : Int32)
set_option maxHeartbeats 4000000 in
set_option maxRecDepth 20000 in
theorem o10_isDumb {g : pG} {Qx : Option Value → pW → Prop} {Z : pZ} {I : (Nat → Nat → Int32)} {L : (Nat → Nat → Int64)} {O : (Nat → Nat → Option Nat)} {n : Nat} {a0 : Nat} {x1 : Int32} {res : Int32} (d : Nat) (hW : WT Z O) (hZ0 : Z[a0]? = some (10, 5)) (h : f10_isDumb n I O a0 x1 = some res) (hQ : (res = 0 ∨ res = 1) → Qx (some (.int res)) (Z, I, L, O)) : Ok g (d + 4, RX10, cX10_isDumb, 3, false, 0, 0, Z.length, pSl Z) Qx 0 [(0, .ref a0), (1, .int x1)] [] (Z, I, L, O) := by
  unfold f10_isDumb at h
  refine ok_iconst (v := 0) dX10_isDumb_0 (by decide) ?_
  refine ok_istore_n (l' := [(2, .int 0), (0, .ref a0), (1, .int x1)]) dX10_isDumb_1 rfl (Nat.le_of_ble_eq_true rfl) rfl ?_
  refine ok_sub [1, 2, 0] rfl ?_
  exact o10_isDumb_c2 d hW hQ  n a0 x1 (0 : Int32) hZ0 h
theorem k10_isDumb {g : pG} {Q : Option Value → pW → Prop} {Z : pZ} {I : (Nat → Nat → Int32)} {L : (Nat → Nat → Int64)} {O : (Nat → Nat → Option Nat)} {n : Nat} {a0 : Nat} {x1 : Int32} {res : Int32} (d : Nat) (hW : WT Z O) (hZ0 : Z[a0]? = some (10, 5)) (h : f10_isDumb n I O a0 x1 = some res) (hQ : Q (some (.int res)) (Z, I, L, O)) : CT g (d + 4) m10_isDumb 0 0 [.ref a0, .int x1] (Z, I, L, O) Q :=
  ct_of_ok (mt := m10_isDumb) (ini := false) mo10_isDumb.2.2.2.2 (fun h => by cases h) (Nat.le_of_ble_eq_true rfl) (o10_isDumb d hW hZ0 h (fun hb => ⟨hb, hQ, rfl, rfl⟩))
theorem dX10_soundings_0 : decode cX10_soundings 0 = .ok (.iconst 0, 1) := by decide +kernel
theorem dX10_soundings_1 : decode cX10_soundings 1 = .ok (.istore_n 3, 1) := by decide +kernel
theorem dX10_soundings_2 : decode cX10_soundings 2 = .ok (.iconst 0, 1) := by decide +kernel
theorem dX10_soundings_3 : decode cX10_soundings 3 = .ok (.istore 4, 2) := by decide +kernel
theorem dX10_soundings_5 : decode cX10_soundings 5 = .ok (.iload 4, 2) := by decide +kernel
theorem dX10_soundings_7 : decode cX10_soundings 7 = .ok (.aload_n 0, 1) := by decide +kernel
theorem dX10_soundings_8 : decode cX10_soundings 8 = .ok (.iload_n 1, 1) := by decide +kernel
theorem dX10_soundings_9 : decode cX10_soundings 9 = .ok (.invokevirtual 68, 3) := by decide +kernel
theorem dX10_soundings_12 : decode cX10_soundings 12 = .ok (.if_icmp .ge 33, 3) := by decide +kernel
theorem dX10_soundings_15 : decode cX10_soundings 15 = .ok (.aload_n 0, 1) := by decide +kernel
theorem dX10_soundings_16 : decode cX10_soundings 16 = .ok (.iload_n 1, 1) := by decide +kernel
theorem dX10_soundings_17 : decode cX10_soundings 17 = .ok (.iload 4, 2) := by decide +kernel
theorem dX10_soundings_19 : decode cX10_soundings 19 = .ok (.invokevirtual 81, 3) := by decide +kernel
theorem dX10_soundings_22 : decode cX10_soundings 22 = .ok (.ifCond .eq 17, 3) := by decide +kernel
theorem dX10_soundings_25 : decode cX10_soundings 25 = .ok (.aload_n 0, 1) := by decide +kernel
theorem dX10_soundings_26 : decode cX10_soundings 26 = .ok (.iload_n 1, 1) := by decide +kernel
theorem dX10_soundings_27 : decode cX10_soundings 27 = .ok (.iload 4, 2) := by decide +kernel
theorem dX10_soundings_29 : decode cX10_soundings 29 = .ok (.invokevirtual 75, 3) := by decide +kernel
theorem dX10_soundings_32 : decode cX10_soundings 32 = .ok (.iload_n 2, 1) := by decide +kernel
theorem dX10_soundings_33 : decode cX10_soundings 33 = .ok (.if_icmp .ne 6, 3) := by decide +kernel
theorem dX10_soundings_36 : decode cX10_soundings 36 = .ok (.iinc 3 1, 3) := by decide +kernel
theorem dX10_soundings_39 : decode cX10_soundings 39 = .ok (.iinc 4 1, 3) := by decide +kernel
theorem dX10_soundings_42 : decode cX10_soundings 42 = .ok (.goto (-37), 3) := by decide +kernel
theorem dX10_soundings_45 : decode cX10_soundings 45 = .ok (.iload_n 3, 1) := by decide +kernel
theorem dX10_soundings_46 : decode cX10_soundings 46 = .ok (.ireturn, 1) := by decide +kernel
def m10_soundings : pMT := (yX10_soundings, cX10_soundings, 5, some .int)
theorem mo10_soundings : mOK m10_soundings 2 := ⟨tb_i 1170 (by decide +kernel), wi_RX10, ⟨wn_RX10.1, wn_RX10.2, by decide +kernel⟩, by decide, plainFor_of_name wp_RX10⟩
theorem mv10_soundings : mV m10_soundings := ⟨tb_i 1168 (by decide +kernel), tb_i 1169 (by decide +kernel)⟩
def f10_soundings_c5 (n : Nat) (I : (Nat → Nat → Int32)) (O : (Nat → Nat → Option Nat)) : Nat → Nat → Int32 → Int32 → Int32 → Int32 → Option (Int32)
  | 0, _, _, _, _, _ => none
  | m + 1, b0, y1, y2, y3, y4 => (f10_size I O b0 y1).bind fun r1 => (if r1 ≤ y4 then some (y3) else (f10_sounds I O b0 y1 y4).bind fun r4 => (if r4 = 0 then f10_soundings_c5 n I O m b0 y1 y2 y3 (y4 + 1) else (f10_keyAt I O b0 y1 y4).bind fun r7 => (if r7 = y2 then f10_soundings_c5 n I O m b0 y1 y2 (y3 + 1) (y4 + 1) else f10_soundings_c5 n I O m b0 y1 y2 y3 (y4 + 1))))
set_option maxHeartbeats 4000000 in
set_option maxRecDepth 20000 in
theorem o10_soundings_c5 {g : pG} {Qx : Option Value → pW → Prop} {Z : pZ} {I : (Nat → Nat → Int32)} {L : (Nat → Nat → Int64)} {O : (Nat → Nat → Option Nat)} {n : Nat} {res : Int32} (d : Nat) (hW : WT Z O) (hQ : Qx (some (.int res)) (Z, I, L, O)) : ∀ (m : Nat) (b0 : Nat) (y1 : Int32) (y2 : Int32) (y3 : Int32) (y4 : Int32), (Z[b0]? = some (10, 5)) → f10_soundings_c5 n I O m b0 y1 y2 y3 y4 = some res → Ok g (d + 4, RX10, cX10_soundings, 5, false, 0, 0, Z.length, pSl Z) Qx 5 [(0, .ref b0), (1, .int y1), (2, .int y2), (3, .int y3), (4, .int y4)] [] (Z, I, L, O) := by
  intro m
  induction m with
  | zero => intro b0 y1 y2 y3 y4 hZ_b0 h; rw [f10_soundings_c5] at h; cases h
  | succ m ih =>
    intro b0 y1 y2 y3 y4 hZ_b0 h
    rw [f10_soundings_c5] at h
    refine ok_iload dX10_soundings_5 4 rfl ?_
    refine ok_aload_n dX10_soundings_7 0 rfl ?_
    refine ok_iload_n dX10_soundings_8 1 rfl ?_
    obtain ⟨r1, hr2, h⟩ := bd h
    refine ok_callV (d := ((d + 0) + 3)) (mt := m10_size) (mc := 0) (ms := 0) (As := [.int y1]) (r := [.int y4]) dX10_soundings_9 mo10_size mv10_size lkRX10_68 rfl hZ_b0 (q := (RX10, TX10, 5)) rfl rfl rfl (Nat.le_of_ble_eq_true rfl) (by show _ + 1 ≤ d + _; omega) (Nat.le_refl _) (Nat.le_refl _) (pRt_mono ?_)
    refine k10_size (d + 0) hW hZ_b0 hr2 ?_
    intro _
    show Ok g _ Qx 12 [(0, .ref b0), (1, .int y1), (2, .int y2), (3, .int y3), (4, .int y4)] [.int r1, .int y4] (Z, I, L, O)
    refine ok_icmp_ge (t := 45) dX10_soundings_12 (by decide) (fun hc3 => ?_) (fun hc3 => ?_)
    · have h := (if_pos hc3).symm.trans h
      refine ok_iload_n dX10_soundings_45 3 rfl ?_
      cases h
      exact ok_iret dX10_soundings_46 hQ
    · have h := (if_neg hc3).symm.trans h
      refine ok_aload_n dX10_soundings_15 0 rfl ?_
      refine ok_iload_n dX10_soundings_16 1 rfl ?_
      refine ok_iload dX10_soundings_17 4 rfl ?_
      obtain ⟨r4, hr5, h⟩ := bd h
      refine ok_callV (d := ((d + 0) + 3)) (mt := m10_sounds) (mc := 0) (ms := 0) (As := [.int y1, .int y4]) (r := []) dX10_soundings_19 mo10_sounds mv10_sounds lkRX10_81 rfl hZ_b0 (q := (RX10, TX10, 5)) rfl rfl rfl (Nat.le_of_ble_eq_true rfl) (by show _ + 1 ≤ d + _; omega) (Nat.le_refl _) (Nat.le_refl _) (pRt_mono ?_)
      refine k10_sounds (d + 0) hW hZ_b0 hr5 ?_
      intro hbr4
      show Ok g _ Qx 22 [(0, .ref b0), (1, .int y1), (2, .int y2), (3, .int y3), (4, .int y4)] [.int r4] (Z, I, L, O)
      refine ok_if_eq (t := 39) dX10_soundings_22 (by decide) (fun hc6 => ?_) (fun hc6 => ?_)
      · have h := (if_pos hc6).symm.trans h
        refine ok_iinc (u := (y4 + 1)) (l' := [(4, .int (y4 + 1)), (0, .ref b0), (1, .int y1), (2, .int y2), (3, .int y3)]) dX10_soundings_39 4 rfl rfl (Nat.le_of_ble_eq_true rfl) rfl ?_
        refine ok_goto (t := 5) dX10_soundings_42 (by decide) ?_
        refine ok_sub [1, 2, 3, 4, 0] rfl ?_
        exact ih b0 y1 y2 y3 (y4 + 1) hZ_b0 h
      · have h := (if_neg hc6).symm.trans h
        refine ok_aload_n dX10_soundings_25 0 rfl ?_
        refine ok_iload_n dX10_soundings_26 1 rfl ?_
        refine ok_iload dX10_soundings_27 4 rfl ?_
        obtain ⟨r7, hr8, h⟩ := bd h
        refine ok_callV (d := ((d + 0) + 3)) (mt := m10_keyAt) (mc := 0) (ms := 0) (As := [.int y1, .int y4]) (r := []) dX10_soundings_29 mo10_keyAt mv10_keyAt lkRX10_75 rfl hZ_b0 (q := (RX10, TX10, 5)) rfl rfl rfl (Nat.le_of_ble_eq_true rfl) (by show _ + 1 ≤ d + _; omega) (Nat.le_refl _) (Nat.le_refl _) (pRt_mono ?_)
        refine k10_keyAt (d + 0) hW hZ_b0 hr8 ?_
        intro _
        show Ok g _ Qx 32 [(0, .ref b0), (1, .int y1), (2, .int y2), (3, .int y3), (4, .int y4)] [.int r7] (Z, I, L, O)
        refine ok_iload_n dX10_soundings_32 2 rfl ?_
        refine ok_icmp_ne (t := 39) dX10_soundings_33 (by decide) (fun hc9 => ?_) (fun hc9 => ?_)
        · have h := (if_neg hc9).symm.trans h
          refine ok_iinc (u := (y4 + 1)) (l' := [(4, .int (y4 + 1)), (0, .ref b0), (1, .int y1), (2, .int y2), (3, .int y3)]) dX10_soundings_39 4 rfl rfl (Nat.le_of_ble_eq_true rfl) rfl ?_
          refine ok_goto (t := 5) dX10_soundings_42 (by decide) ?_
          refine ok_sub [1, 2, 3, 4, 0] rfl ?_
          exact ih b0 y1 y2 y3 (y4 + 1) hZ_b0 h
        · have h := (if_pos hc9).symm.trans h
          refine ok_iinc (u := (y3 + 1)) (l' := [(3, .int (y3 + 1)), (0, .ref b0), (1, .int y1), (2, .int y2), (4, .int y4)]) dX10_soundings_36 3 rfl rfl (Nat.le_of_ble_eq_true rfl) rfl ?_
          refine ok_iinc (u := (y4 + 1)) (l' := [(4, .int (y4 + 1)), (3, .int (y3 + 1)), (0, .ref b0), (1, .int y1), (2, .int y2)]) dX10_soundings_39 4 rfl rfl (Nat.le_of_ble_eq_true rfl) rfl ?_
          refine ok_goto (t := 5) dX10_soundings_42 (by decide) ?_
          refine ok_sub [2, 3, 4, 1, 0] rfl ?_
          exact ih b0 y1 y2 (y3 + 1) (y4 + 1) hZ_b0 h
def f10_soundings (n : Nat) (I : (Nat → Nat → Int32)) (O : (Nat → Nat → Option Nat)) (a0 : Nat) (x1 : Int32) (x2 : Int32) : Option (Int32) := f10_soundings_c5 n I O n a0 x1 x2 (0 : Int32) (0 : Int32)
set_option maxHeartbeats 4000000 in
set_option maxRecDepth 20000 in
theorem o10_soundings {g : pG} {Qx : Option Value → pW → Prop} {Z : pZ} {I : (Nat → Nat → Int32)} {L : (Nat → Nat → Int64)} {O : (Nat → Nat → Option Nat)} {n : Nat} {a0 : Nat} {x1 : Int32} {x2 : Int32} {res : Int32} (d : Nat) (hW : WT Z O) (hZ0 : Z[a0]? = some (10, 5)) (h : f10_soundings n I O a0 x1 x2 = some res) (hQ : Qx (some (.int res)) (Z, I, L, O)) : Ok g (d + 4, RX10, cX10_soundings, 5, false, 0, 0, Z.length, pSl Z) Qx 0 [(0, .ref a0), (1, .int x1), (2, .int x2)] [] (Z, I, L, O) := by
  unfold f10_soundings at h
  refine ok_iconst (v := 0) dX10_soundings_0 (by decide) ?_
  refine ok_istore_n (l' := [(3, .int 0), (0, .ref a0), (1, .int x1), (2, .int x2)]) dX10_soundings_1 rfl (Nat.le_of_ble_eq_true rfl) rfl ?_
  refine ok_iconst (v := 0) dX10_soundings_2 (by decide) ?_
  refine ok_istore (l' := [(4, .int 0), (3, .int 0), (0, .ref a0), (1, .int x1), (2, .int x2)]) dX10_soundings_3 (Nat.le_of_ble_eq_true rfl) rfl ?_
  refine ok_sub [2, 3, 4, 1, 0] rfl ?_
  exact o10_soundings_c5 d hW hQ  n a0 x1 x2 (0 : Int32) (0 : Int32) hZ0 h
theorem k10_soundings {g : pG} {Q : Option Value → pW → Prop} {Z : pZ} {I : (Nat → Nat → Int32)} {L : (Nat → Nat → Int64)} {O : (Nat → Nat → Option Nat)} {n : Nat} {a0 : Nat} {x1 : Int32} {x2 : Int32} {res : Int32} (d : Nat) (hW : WT Z O) (hZ0 : Z[a0]? = some (10, 5)) (h : f10_soundings n I O a0 x1 x2 = some res) (hQ : Q (some (.int res)) (Z, I, L, O)) : CT g (d + 4) m10_soundings 0 0 [.ref a0, .int x1, .int x2] (Z, I, L, O) Q :=
  ct_of_ok (mt := m10_soundings) (ini := false) mo10_soundings.2.2.2.2 (fun h => by cases h) (Nat.le_of_ble_eq_true rfl) (o10_soundings d hW hZ0 h ⟨trivial, hQ, rfl, rfl⟩)
