theorem flRX5_12 : FL RX5 12 5 1 := ⟨(RX5, TX5, 8), rfl, by decide, tb_i 330 (by decide +kernel)⟩
theorem flRX5_18 : FL RX5 18 5 7 := ⟨(RX5, TX5, 8), rfl, by decide, tb_i 337 (by decide +kernel)⟩
theorem flRX5_22 : FL RX5 22 5 0 := ⟨(RX5, TX5, 8), rfl, by decide, tb_i 329 (by decide +kernel)⟩
theorem flRX5_29 : FL RX5 29 5 6 := ⟨(RX5, TX5, 8), rfl, by decide, tb_i 335 (by decide +kernel)⟩
theorem flRX5_36 : FL RX5 36 5 3 := ⟨(RX5, TX5, 8), rfl, by decide, tb_i 332 (by decide +kernel)⟩
theorem flRX5_47 : FL RX5 47 5 2 := ⟨(RX5, TX5, 8), rfl, by decide, tb_i 331 (by decide +kernel)⟩
theorem flRX5_50 : FL RX5 50 8 5 := ⟨(RX8, TX8, 6), rfl, by decide, tb_i 189 (by decide +kernel)⟩
theorem flRX5_55 : FL RX5 55 8 1 := ⟨(RX8, TX8, 6), rfl, by decide, tb_i 180 (by decide +kernel)⟩
theorem flRX5_59 : FL RX5 59 8 3 := ⟨(RX8, TX8, 6), rfl, by decide, tb_i 184 (by decide +kernel)⟩
theorem flRX5_62 : FL RX5 62 5 4 := ⟨(RX5, TX5, 8), rfl, by decide, tb_i 333 (by decide +kernel)⟩
theorem flRX5_65 : FL RX5 65 8 2 := ⟨(RX8, TX8, 6), rfl, by decide, tb_i 182 (by decide +kernel)⟩
theorem flRX5_68 : FL RX5 68 8 4 := ⟨(RX8, TX8, 6), rfl, by decide, tb_i 186 (by decide +kernel)⟩
theorem flRX5_97 : FL RX5 97 7 6 := ⟨(RX7, TX7, 7), rfl, by decide, tb_i 304 (by decide +kernel)⟩
theorem flRX5_104 : FL RX5 104 7 5 := ⟨(RX7, TX7, 7), rfl, by decide, tb_i 302 (by decide +kernel)⟩
theorem flRX5_109 : FL RX5 109 5 5 := ⟨(RX5, TX5, 8), rfl, by decide, tb_i 334 (by decide +kernel)⟩
theorem lkRX5_32 : Cond.methodLink RX5 32 yX5_comeTo ∈ lw_tbl := tb_i 541 (by decide +kernel)
theorem lkRX5_43 : Cond.methodLink RX5 43 yX5_expect ∈ lw_tbl := tb_i 585 (by decide +kernel)
theorem lkRX5_71 : Cond.methodLink RX5 71 yX5_refuse ∈ lw_tbl := tb_i 553 (by decide +kernel)
theorem lkRX5_77 : Cond.methodLink RX5 77 yX7_addClause ∈ lw_tbl := tb_i 565 (by decide +kernel)
theorem lkRX5_94 : Cond.methodLink RX5 94 yX7_hasLaw ∈ lw_tbl := tb_i 557 (by decide +kernel)
theorem lkRX5_100 : Cond.methodLink RX5 100 yX5_isNumber ∈ lw_tbl := tb_i 573 (by decide +kernel)
theorem lkRX5_105 : Cond.methodLink RX5 105 yX7_add ∈ lw_tbl := tb_i 577 (by decide +kernel)
theorem dX5_comeTo_0 : decode cX5_comeTo 0 = .ok (.aload_n 0, 1) := by decide +kernel
theorem dX5_comeTo_1 : decode cX5_comeTo 1 = .ok (.iload_n 1, 1) := by decide +kernel
theorem dX5_comeTo_2 : decode cX5_comeTo 2 = .ok (.putfield 47, 3) := by decide +kernel
theorem dX5_comeTo_5 : decode cX5_comeTo 5 = .ok (.iload_n 1, 1) := by decide +kernel
theorem dX5_comeTo_6 : decode cX5_comeTo 6 = .ok (.ifCond .lt 25, 3) := by decide +kernel
theorem dX5_comeTo_9 : decode cX5_comeTo 9 = .ok (.iload_n 1, 1) := by decide +kernel
theorem dX5_comeTo_10 : decode cX5_comeTo 10 = .ok (.aload_n 0, 1) := by decide +kernel
theorem dX5_comeTo_11 : decode cX5_comeTo 11 = .ok (.getfield 22, 3) := by decide +kernel
theorem dX5_comeTo_14 : decode cX5_comeTo 14 = .ok (.getfield 50, 3) := by decide +kernel
theorem dX5_comeTo_17 : decode cX5_comeTo 17 = .ok (.if_icmp .ge 14, 3) := by decide +kernel
theorem dX5_comeTo_20 : decode cX5_comeTo 20 = .ok (.iload_n 1, 1) := by decide +kernel
theorem dX5_comeTo_21 : decode cX5_comeTo 21 = .ok (.sipush 300, 3) := by decide +kernel
theorem dX5_comeTo_24 : decode cX5_comeTo 24 = .ok (.if_icmp .gt 7, 3) := by decide +kernel
theorem dX5_comeTo_27 : decode cX5_comeTo 27 = .ok (.iconst 1, 1) := by decide +kernel
theorem dX5_comeTo_28 : decode cX5_comeTo 28 = .ok (.goto 4, 3) := by decide +kernel
theorem dX5_comeTo_31 : decode cX5_comeTo 31 = .ok (.iconst 0, 1) := by decide +kernel
theorem dX5_comeTo_32 : decode cX5_comeTo 32 = .ok (.istore_n 2, 1) := by decide +kernel
theorem dX5_comeTo_33 : decode cX5_comeTo 33 = .ok (.aload_n 0, 1) := by decide +kernel
theorem dX5_comeTo_34 : decode cX5_comeTo 34 = .ok (.iload_n 2, 1) := by decide +kernel
theorem dX5_comeTo_35 : decode cX5_comeTo 35 = .ok (.ifCond .eq 15, 3) := by decide +kernel
theorem dX5_comeTo_38 : decode cX5_comeTo 38 = .ok (.aload_n 0, 1) := by decide +kernel
theorem dX5_comeTo_39 : decode cX5_comeTo 39 = .ok (.getfield 22, 3) := by decide +kernel
theorem dX5_comeTo_42 : decode cX5_comeTo 42 = .ok (.getfield 55, 3) := by decide +kernel
theorem dX5_comeTo_45 : decode cX5_comeTo 45 = .ok (.iload_n 1, 1) := by decide +kernel
theorem dX5_comeTo_46 : decode cX5_comeTo 46 = .ok (.iaload, 1) := by decide +kernel
theorem dX5_comeTo_47 : decode cX5_comeTo 47 = .ok (.goto 5, 3) := by decide +kernel
theorem dX5_comeTo_50 : decode cX5_comeTo 50 = .ok (.bipush 27, 2) := by decide +kernel
theorem dX5_comeTo_52 : decode cX5_comeTo 52 = .ok (.putfield 36, 3) := by decide +kernel
theorem dX5_comeTo_55 : decode cX5_comeTo 55 = .ok (.aload_n 0, 1) := by decide +kernel
theorem dX5_comeTo_56 : decode cX5_comeTo 56 = .ok (.iload_n 2, 1) := by decide +kernel
theorem dX5_comeTo_57 : decode cX5_comeTo 57 = .ok (.ifCond .eq 15, 3) := by decide +kernel
theorem dX5_comeTo_60 : decode cX5_comeTo 60 = .ok (.aload_n 0, 1) := by decide +kernel
theorem dX5_comeTo_61 : decode cX5_comeTo 61 = .ok (.getfield 22, 3) := by decide +kernel
theorem dX5_comeTo_64 : decode cX5_comeTo 64 = .ok (.getfield 59, 3) := by decide +kernel
theorem dX5_comeTo_67 : decode cX5_comeTo 67 = .ok (.iload_n 1, 1) := by decide +kernel
theorem dX5_comeTo_68 : decode cX5_comeTo 68 = .ok (.iaload, 1) := by decide +kernel
theorem dX5_comeTo_69 : decode cX5_comeTo 69 = .ok (.goto 4, 3) := by decide +kernel
theorem dX5_comeTo_72 : decode cX5_comeTo 72 = .ok (.iconst 0, 1) := by decide +kernel
theorem dX5_comeTo_73 : decode cX5_comeTo 73 = .ok (.putfield 62, 3) := by decide +kernel
theorem dX5_comeTo_76 : decode cX5_comeTo 76 = .ok (.return_, 1) := by decide +kernel
theorem wi_RX5 : Cond.initialized RX5 ∈ lw_tbl := tb_i 12 (by decide +kernel)
theorem wn_RX5 : RX5 ≠ "java/lang/invoke/MethodHandle" ∧ RX5 ≠ "java/lang/invoke/VarHandle" := ⟨by decide +kernel, by decide +kernel⟩
theorem wp_RX5 : plainName RX5 = true := by decide +kernel
def m5_comeTo : pMT := (yX5_comeTo, cX5_comeTo, 3, none)
theorem mo5_comeTo : mOK m5_comeTo 1 := ⟨tb_i 544 (by decide +kernel), wi_RX5, ⟨wn_RX5.1, wn_RX5.2, by decide +kernel⟩, by decide, plainFor_of_name wp_RX5⟩
theorem mv5_comeTo : mV m5_comeTo := ⟨tb_i 543 (by decide +kernel), tb_p 6 (by decide +kernel)⟩
def f5_comeTo_c52 (O : (Nat → Nat → Option Nat)) (I : (Nat → Nat → Int32)) (b0 : Nat) (y1 : Int32) (y2 : Int32) (t0 : Int32) (t1 : Nat) : Option ((Nat → Nat → Int32)) := bl (sI I t1 3 t0) fun I1 => (if y2 = 0 then bl (sI I1 b0 4 (0 : Int32)) fun I3 => some (I3) else (if y1 < 0 ∨ 301 ≤ y1.toNatClampNeg then none else bl (sI I1 b0 4 (I1 (rO O (rO O b0 0) 3) y1.toNatClampNeg)) fun I7 => some (I7)))
set_option maxHeartbeats 4000000 in
set_option maxRecDepth 20000 in
theorem o5_comeTo_c52 {g : pG} {Qx : Option Value → pW → Prop} {Z : pZ} {L : (Nat → Nat → Int64)} {O : (Nat → Nat → Option Nat)} {res : (Nat → Nat → Int32)} (d : Nat) (hW : WT Z O) (hQ : Qx none (Z, res, L, O)) (I : (Nat → Nat → Int32)) (b0 : Nat) (y1 : Int32) (y2 : Int32) (t0 : Int32) (t1 : Nat) (hZ_b0 : Z[b0]? = some (5, 8)) (hZ_t1 : Z[t1]? = some (5, 8)) (h : f5_comeTo_c52 O I b0 y1 y2 t0 t1 = some res) : Ok g (d + 2, RX5, cX5_comeTo, 3, false, 0, 0, Z.length, pSl Z) Qx 52 [(0, .ref b0), (1, .int y1), (2, .int y2)] [.int t0, .ref t1] (Z, I, L, O) := by
  unfold f5_comeTo_c52 at h
  obtain ⟨I1, eI1, h⟩ := blE h
  refine ok_putI2 (ci := 5) (k := 3) dX5_comeTo_52 flRX5_36 rfl (Or.inl rfl) hZ_t1 (by decide) eI1 ?_
  refine ok_aload_n dX5_comeTo_55 0 rfl ?_
  refine ok_iload_n dX5_comeTo_56 2 rfl ?_
  refine ok_if_eq (t := 72) dX5_comeTo_57 (by decide) (fun hc2 => ?_) (fun hc2 => ?_)
  · have h := (if_pos hc2).symm.trans h
    refine ok_iconst (v := 0) dX5_comeTo_72 (by decide) ?_
    obtain ⟨I3, eI3, h⟩ := blE h
    refine ok_putI2 (ci := 5) (k := 4) dX5_comeTo_73 flRX5_62 rfl (Or.inl rfl) hZ_b0 (by decide) eI3 ?_
    cases h
    exact ok_vret dX5_comeTo_76 hQ
  · have h := (if_neg hc2).symm.trans h
    refine ok_aload_n dX5_comeTo_60 0 rfl ?_
    have hT4 : Z[(rO O b0 0)]? = some (8, 6) := (wt_f (ci := 5) (k := 0) hW hZ_b0 rfl).2
    refine ok_getR (ci := 5) (k := 0) dX5_comeTo_61 flRX5_22 rfl hW hZ_b0 (by decide) ?_
    have hT5 : Z[(rO O (rO O b0 0) 3)]? = some (13, 301) := (wt_f (ci := 8) (k := 3) hW hT4 rfl).2
    refine ok_getR (ci := 8) (k := 3) dX5_comeTo_64 flRX5_59 rfl hW hT4 (by decide) ?_
    refine ok_iload_n dX5_comeTo_67 1 rfl ?_
    obtain ⟨hg6, h⟩ := gd h
    refine ok_iald2 (N := y1.toNatClampNeg) dX5_comeTo_68 hT5 hg6 rfl ?_
    refine ok_goto (t := 73) dX5_comeTo_69 (by decide) ?_
    obtain ⟨I7, eI7, h⟩ := blE h
    refine ok_putI2 (ci := 5) (k := 4) dX5_comeTo_73 flRX5_62 rfl (Or.inl rfl) hZ_b0 (by decide) eI7 ?_
    cases h
    exact ok_vret dX5_comeTo_76 hQ
def f5_comeTo_c32 (O : (Nat → Nat → Option Nat)) (I : (Nat → Nat → Int32)) (b0 : Nat) (y1 : Int32) (t0 : Int32) : Option ((Nat → Nat → Int32)) := (if t0 = 0 then f5_comeTo_c52 O I b0 y1 t0 (27 : Int32) b0 else (if y1 < 0 ∨ 301 ≤ y1.toNatClampNeg then none else f5_comeTo_c52 O I b0 y1 t0 (I (rO O (rO O b0 0) 1) y1.toNatClampNeg) b0))
set_option maxHeartbeats 4000000 in
set_option maxRecDepth 20000 in
theorem o5_comeTo_c32 {g : pG} {Qx : Option Value → pW → Prop} {Z : pZ} {L : (Nat → Nat → Int64)} {O : (Nat → Nat → Option Nat)} {res : (Nat → Nat → Int32)} (d : Nat) (hW : WT Z O) (hQ : Qx none (Z, res, L, O)) (I : (Nat → Nat → Int32)) (b0 : Nat) (y1 : Int32) (t0 : Int32) (hZ_b0 : Z[b0]? = some (5, 8)) (h : f5_comeTo_c32 O I b0 y1 t0 = some res) : Ok g (d + 2, RX5, cX5_comeTo, 3, false, 0, 0, Z.length, pSl Z) Qx 32 [(0, .ref b0), (1, .int y1)] [.int t0] (Z, I, L, O) := by
  unfold f5_comeTo_c32 at h
  refine ok_istore_n (l' := [(2, .int t0), (0, .ref b0), (1, .int y1)]) dX5_comeTo_32 rfl (Nat.le_of_ble_eq_true rfl) rfl ?_
  refine ok_aload_n dX5_comeTo_33 1 rfl ?_
  refine ok_iload_n dX5_comeTo_34 0 rfl ?_
  refine ok_if_eq (t := 50) dX5_comeTo_35 (by decide) (fun hc1 => ?_) (fun hc1 => ?_)
  · have h := (if_pos hc1).symm.trans h
    refine ok_bipush (v := 27) dX5_comeTo_50 (by decide) ?_
    refine ok_sub [1, 2, 0] rfl ?_
    exact o5_comeTo_c52 d hW hQ  I b0 y1 t0 (27 : Int32) b0 hZ_b0 hZ_b0 h
  · have h := (if_neg hc1).symm.trans h
    refine ok_aload_n dX5_comeTo_38 1 rfl ?_
    have hT2 : Z[(rO O b0 0)]? = some (8, 6) := (wt_f (ci := 5) (k := 0) hW hZ_b0 rfl).2
    refine ok_getR (ci := 5) (k := 0) dX5_comeTo_39 flRX5_22 rfl hW hZ_b0 (by decide) ?_
    have hT3 : Z[(rO O (rO O b0 0) 1)]? = some (13, 301) := (wt_f (ci := 8) (k := 1) hW hT2 rfl).2
    refine ok_getR (ci := 8) (k := 1) dX5_comeTo_42 flRX5_55 rfl hW hT2 (by decide) ?_
    refine ok_iload_n dX5_comeTo_45 2 rfl ?_
    obtain ⟨hg4, h⟩ := gd h
    refine ok_iald2 (N := y1.toNatClampNeg) dX5_comeTo_46 hT3 hg4 rfl ?_
    refine ok_goto (t := 52) dX5_comeTo_47 (by decide) ?_
    refine ok_sub [1, 2, 0] rfl ?_
    exact o5_comeTo_c52 d hW hQ  I b0 y1 t0 (I (rO O (rO O b0 0) 1) y1.toNatClampNeg) b0 hZ_b0 hZ_b0 h
def f5_comeTo_c31 (O : (Nat → Nat → Option Nat)) (I : (Nat → Nat → Int32)) (b0 : Nat) (y1 : Int32) : Option ((Nat → Nat → Int32)) := f5_comeTo_c32 O I b0 y1 (0 : Int32)
set_option maxHeartbeats 4000000 in
set_option maxRecDepth 20000 in
theorem o5_comeTo_c31 {g : pG} {Qx : Option Value → pW → Prop} {Z : pZ} {L : (Nat → Nat → Int64)} {O : (Nat → Nat → Option Nat)} {res : (Nat → Nat → Int32)} (d : Nat) (hW : WT Z O) (hQ : Qx none (Z, res, L, O)) (I : (Nat → Nat → Int32)) (b0 : Nat) (y1 : Int32) (hZ_b0 : Z[b0]? = some (5, 8)) (h : f5_comeTo_c31 O I b0 y1 = some res) : Ok g (d + 2, RX5, cX5_comeTo, 3, false, 0, 0, Z.length, pSl Z) Qx 31 [(0, .ref b0), (1, .int y1)] [] (Z, I, L, O) := by
  unfold f5_comeTo_c31 at h
  refine ok_iconst (v := 0) dX5_comeTo_31 (by decide) ?_
  refine ok_sub [0, 1] rfl ?_
  exact o5_comeTo_c32 d hW hQ  I b0 y1 (0 : Int32) hZ_b0 h
def f5_comeTo (I : (Nat → Nat → Int32)) (O : (Nat → Nat → Option Nat)) (a0 : Nat) (x1 : Int32) : Option ((Nat → Nat → Int32)) := bl (sI I a0 2 x1) fun I1 => (if x1 < 0 then f5_comeTo_c31 O I1 a0 x1 else (if (I1 (rO O a0 0) 5) ≤ x1 then f5_comeTo_c31 O I1 a0 x1 else (if (300 : Int32) < x1 then f5_comeTo_c31 O I1 a0 x1 else f5_comeTo_c32 O I1 a0 x1 (1 : Int32))))
set_option maxHeartbeats 4000000 in
set_option maxRecDepth 20000 in
theorem o5_comeTo {g : pG} {Qx : Option Value → pW → Prop} {Z : pZ} {I : (Nat → Nat → Int32)} {L : (Nat → Nat → Int64)} {O : (Nat → Nat → Option Nat)} {a0 : Nat} {x1 : Int32} {res : (Nat → Nat → Int32)} (d : Nat) (hW : WT Z O) (hZ0 : Z[a0]? = some (5, 8)) (h : f5_comeTo I O a0 x1 = some res) (hQ : Qx none (Z, res, L, O)) : Ok g (d + 2, RX5, cX5_comeTo, 3, false, 0, 0, Z.length, pSl Z) Qx 0 [(0, .ref a0), (1, .int x1)] [] (Z, I, L, O) := by
  unfold f5_comeTo at h
  refine ok_aload_n dX5_comeTo_0 0 rfl ?_
  refine ok_iload_n dX5_comeTo_1 1 rfl ?_
  obtain ⟨I1, eI1, h⟩ := blE h
  refine ok_putI2 (ci := 5) (k := 2) dX5_comeTo_2 flRX5_47 rfl (Or.inl rfl) hZ0 (by decide) eI1 ?_
  refine ok_iload_n dX5_comeTo_5 1 rfl ?_
  refine ok_if_lt (t := 31) dX5_comeTo_6 (by decide) (fun hc2 => ?_) (fun hc2 => ?_)
  · have h := (if_pos hc2).symm.trans h
    refine ok_sub [0, 1] rfl ?_
    exact o5_comeTo_c31 d hW hQ  I1 a0 x1 hZ0 h
  · have h := (if_neg hc2).symm.trans h
    refine ok_iload_n dX5_comeTo_9 1 rfl ?_
    refine ok_aload_n dX5_comeTo_10 0 rfl ?_
    have hT3 : Z[(rO O a0 0)]? = some (8, 6) := (wt_f (ci := 5) (k := 0) hW hZ0 rfl).2
    refine ok_getR (ci := 5) (k := 0) dX5_comeTo_11 flRX5_22 rfl hW hZ0 (by decide) ?_
    refine ok_getI (ci := 8) (k := 5) dX5_comeTo_14 flRX5_50 rfl hT3 (by decide) ?_
    refine ok_icmp_ge (t := 31) dX5_comeTo_17 (by decide) (fun hc4 => ?_) (fun hc4 => ?_)
    · have h := (if_pos hc4).symm.trans h
      refine ok_sub [0, 1] rfl ?_
      exact o5_comeTo_c31 d hW hQ  I1 a0 x1 hZ0 h
    · have h := (if_neg hc4).symm.trans h
      refine ok_iload_n dX5_comeTo_20 1 rfl ?_
      refine ok_sipush (v := 300) dX5_comeTo_21 (by decide) ?_
      refine ok_icmp_gt (t := 31) dX5_comeTo_24 (by decide) (fun hc5 => ?_) (fun hc5 => ?_)
      · have h := (if_pos hc5).symm.trans h
        refine ok_sub [0, 1] rfl ?_
        exact o5_comeTo_c31 d hW hQ  I1 a0 x1 hZ0 h
      · have h := (if_neg hc5).symm.trans h
        refine ok_iconst (v := 1) dX5_comeTo_27 (by decide) ?_
        refine ok_goto (t := 32) dX5_comeTo_28 (by decide) ?_
        refine ok_sub [0, 1] rfl ?_
        exact o5_comeTo_c32 d hW hQ  I1 a0 x1 (1 : Int32) hZ0 h
theorem k5_comeTo {g : pG} {Q : Option Value → pW → Prop} {Z : pZ} {I : (Nat → Nat → Int32)} {L : (Nat → Nat → Int64)} {O : (Nat → Nat → Option Nat)} {a0 : Nat} {x1 : Int32} {res : (Nat → Nat → Int32)} (d : Nat) (hW : WT Z O) (hZ0 : Z[a0]? = some (5, 8)) (h : f5_comeTo I O a0 x1 = some res) (hQ : Q none (Z, res, L, O)) : CT g (d + 2) m5_comeTo 0 0 [.ref a0, .int x1] (Z, I, L, O) Q :=
  ct_of_ok (mt := m5_comeTo) (ini := false) mo5_comeTo.2.2.2.2 (fun h => by cases h) (Nat.le_of_ble_eq_true rfl) (o5_comeTo d hW hZ0 h ⟨trivial, hQ, rfl, rfl⟩)
theorem dX5_refuse_0 : decode cX5_refuse 0 = .ok (.aload_n 0, 1) := by decide +kernel
theorem dX5_refuse_1 : decode cX5_refuse 1 = .ok (.iload_n 1, 1) := by decide +kernel
theorem dX5_refuse_2 : decode cX5_refuse 2 = .ok (.putfield 29, 3) := by decide +kernel
theorem dX5_refuse_5 : decode cX5_refuse 5 = .ok (.aload_n 0, 1) := by decide +kernel
theorem dX5_refuse_6 : decode cX5_refuse 6 = .ok (.aload_n 0, 1) := by decide +kernel
theorem dX5_refuse_7 : decode cX5_refuse 7 = .ok (.getfield 47, 3) := by decide +kernel
theorem dX5_refuse_10 : decode cX5_refuse 10 = .ok (.ifCond .lt 42, 3) := by decide +kernel
theorem dX5_refuse_13 : decode cX5_refuse 13 = .ok (.aload_n 0, 1) := by decide +kernel
theorem dX5_refuse_14 : decode cX5_refuse 14 = .ok (.getfield 47, 3) := by decide +kernel
theorem dX5_refuse_17 : decode cX5_refuse 17 = .ok (.aload_n 0, 1) := by decide +kernel
theorem dX5_refuse_18 : decode cX5_refuse 18 = .ok (.getfield 22, 3) := by decide +kernel
theorem dX5_refuse_21 : decode cX5_refuse 21 = .ok (.getfield 50, 3) := by decide +kernel
theorem dX5_refuse_24 : decode cX5_refuse 24 = .ok (.if_icmp .ge 28, 3) := by decide +kernel
theorem dX5_refuse_27 : decode cX5_refuse 27 = .ok (.aload_n 0, 1) := by decide +kernel
theorem dX5_refuse_28 : decode cX5_refuse 28 = .ok (.getfield 47, 3) := by decide +kernel
theorem dX5_refuse_31 : decode cX5_refuse 31 = .ok (.sipush 300, 3) := by decide +kernel
theorem dX5_refuse_34 : decode cX5_refuse 34 = .ok (.if_icmp .gt 18, 3) := by decide +kernel
theorem dX5_refuse_37 : decode cX5_refuse 37 = .ok (.aload_n 0, 1) := by decide +kernel
theorem dX5_refuse_38 : decode cX5_refuse 38 = .ok (.getfield 22, 3) := by decide +kernel
theorem dX5_refuse_41 : decode cX5_refuse 41 = .ok (.getfield 65, 3) := by decide +kernel
theorem dX5_refuse_44 : decode cX5_refuse 44 = .ok (.aload_n 0, 1) := by decide +kernel
theorem dX5_refuse_45 : decode cX5_refuse 45 = .ok (.getfield 47, 3) := by decide +kernel
theorem dX5_refuse_48 : decode cX5_refuse 48 = .ok (.iaload, 1) := by decide +kernel
theorem dX5_refuse_49 : decode cX5_refuse 49 = .ok (.goto 10, 3) := by decide +kernel
theorem dX5_refuse_52 : decode cX5_refuse 52 = .ok (.aload_n 0, 1) := by decide +kernel
theorem dX5_refuse_53 : decode cX5_refuse 53 = .ok (.getfield 22, 3) := by decide +kernel
theorem dX5_refuse_56 : decode cX5_refuse 56 = .ok (.getfield 68, 3) := by decide +kernel
theorem dX5_refuse_59 : decode cX5_refuse 59 = .ok (.putfield 18, 3) := by decide +kernel
theorem dX5_refuse_62 : decode cX5_refuse 62 = .ok (.iconst 0, 1) := by decide +kernel
theorem dX5_refuse_63 : decode cX5_refuse 63 = .ok (.ireturn, 1) := by decide +kernel
def m5_refuse : pMT := (yX5_refuse, cX5_refuse, 2, some .boolean)
theorem mo5_refuse : mOK m5_refuse 1 := ⟨tb_i 556 (by decide +kernel), wi_RX5, ⟨wn_RX5.1, wn_RX5.2, by decide +kernel⟩, by decide, plainFor_of_name wp_RX5⟩
theorem mv5_refuse : mV m5_refuse := ⟨tb_i 555 (by decide +kernel), tb_p 9 (by decide +kernel)⟩
def f5_refuse (I : (Nat → Nat → Int32)) (O : (Nat → Nat → Option Nat)) (a0 : Nat) (x1 : Int32) : Option (Int32 × (Nat → Nat → Int32)) := bl (sI I a0 6 x1) fun I1 => (if (I1 a0 2) < 0 then bl (sI I1 a0 7 (I1 (rO O a0 0) 4)) fun I4 => some ((0 : Int32), I4) else (if (I1 (rO O a0 0) 5) ≤ (I1 a0 2) then bl (sI I1 a0 7 (I1 (rO O a0 0) 4)) fun I7 => some ((0 : Int32), I7) else (if (300 : Int32) < (I1 a0 2) then bl (sI I1 a0 7 (I1 (rO O a0 0) 4)) fun I9 => some ((0 : Int32), I9) else (if (I1 a0 2) < 0 ∨ 301 ≤ (I1 a0 2).toNatClampNeg then none else bl (sI I1 a0 7 (I1 (rO O (rO O a0 0) 2) (I1 a0 2).toNatClampNeg)) fun I12 => some ((0 : Int32), I12)))))
set_option maxHeartbeats 4000000 in
set_option maxRecDepth 20000 in
theorem o5_refuse {g : pG} {Qx : Option Value → pW → Prop} {Z : pZ} {I : (Nat → Nat → Int32)} {L : (Nat → Nat → Int64)} {O : (Nat → Nat → Option Nat)} {a0 : Nat} {x1 : Int32} {res : Int32 × (Nat → Nat → Int32)} (d : Nat) (hW : WT Z O) (hZ0 : Z[a0]? = some (5, 8)) (h : f5_refuse I O a0 x1 = some res) (hQ : (res.1 = 0 ∨ res.1 = 1) → Qx (some (.int res.1)) (Z, res.2, L, O)) : Ok g (d + 2, RX5, cX5_refuse, 2, false, 0, 0, Z.length, pSl Z) Qx 0 [(0, .ref a0), (1, .int x1)] [] (Z, I, L, O) := by
  unfold f5_refuse at h
  refine ok_aload_n dX5_refuse_0 0 rfl ?_
  refine ok_iload_n dX5_refuse_1 1 rfl ?_
  obtain ⟨I1, eI1, h⟩ := blE h
  refine ok_putI2 (ci := 5) (k := 6) dX5_refuse_2 flRX5_29 rfl (Or.inl rfl) hZ0 (by decide) eI1 ?_
  refine ok_aload_n dX5_refuse_5 0 rfl ?_
  refine ok_aload_n dX5_refuse_6 0 rfl ?_
  refine ok_getI (ci := 5) (k := 2) dX5_refuse_7 flRX5_47 rfl hZ0 (by decide) ?_
  refine ok_if_lt (t := 52) dX5_refuse_10 (by decide) (fun hc2 => ?_) (fun hc2 => ?_)
  · have h := (if_pos hc2).symm.trans h
    refine ok_aload_n dX5_refuse_52 0 rfl ?_
    have hT3 : Z[(rO O a0 0)]? = some (8, 6) := (wt_f (ci := 5) (k := 0) hW hZ0 rfl).2
    refine ok_getR (ci := 5) (k := 0) dX5_refuse_53 flRX5_22 rfl hW hZ0 (by decide) ?_
    refine ok_getI (ci := 8) (k := 4) dX5_refuse_56 flRX5_68 rfl hT3 (by decide) ?_
    obtain ⟨I4, eI4, h⟩ := blE h
    refine ok_putI2 (ci := 5) (k := 7) dX5_refuse_59 flRX5_18 rfl (Or.inl rfl) hZ0 (by decide) eI4 ?_
    refine ok_iconst (v := 0) dX5_refuse_62 (by decide) ?_
    cases h
    exact ok_iret dX5_refuse_63 (hQ (Or.inl rfl))
  · have h := (if_neg hc2).symm.trans h
    refine ok_aload_n dX5_refuse_13 0 rfl ?_
    refine ok_getI (ci := 5) (k := 2) dX5_refuse_14 flRX5_47 rfl hZ0 (by decide) ?_
    refine ok_aload_n dX5_refuse_17 0 rfl ?_
    have hT5 : Z[(rO O a0 0)]? = some (8, 6) := (wt_f (ci := 5) (k := 0) hW hZ0 rfl).2
    refine ok_getR (ci := 5) (k := 0) dX5_refuse_18 flRX5_22 rfl hW hZ0 (by decide) ?_
    refine ok_getI (ci := 8) (k := 5) dX5_refuse_21 flRX5_50 rfl hT5 (by decide) ?_
    refine ok_icmp_ge (t := 52) dX5_refuse_24 (by decide) (fun hc6 => ?_) (fun hc6 => ?_)
    · have h := (if_pos hc6).symm.trans h
      refine ok_aload_n dX5_refuse_52 0 rfl ?_
      refine ok_getR (ci := 5) (k := 0) dX5_refuse_53 flRX5_22 rfl hW hZ0 (by decide) ?_
      refine ok_getI (ci := 8) (k := 4) dX5_refuse_56 flRX5_68 rfl hT5 (by decide) ?_
      obtain ⟨I7, eI7, h⟩ := blE h
      refine ok_putI2 (ci := 5) (k := 7) dX5_refuse_59 flRX5_18 rfl (Or.inl rfl) hZ0 (by decide) eI7 ?_
      refine ok_iconst (v := 0) dX5_refuse_62 (by decide) ?_
      cases h
      exact ok_iret dX5_refuse_63 (hQ (Or.inl rfl))
    · have h := (if_neg hc6).symm.trans h
      refine ok_aload_n dX5_refuse_27 0 rfl ?_
      refine ok_getI (ci := 5) (k := 2) dX5_refuse_28 flRX5_47 rfl hZ0 (by decide) ?_
      refine ok_sipush (v := 300) dX5_refuse_31 (by decide) ?_
      refine ok_icmp_gt (t := 52) dX5_refuse_34 (by decide) (fun hc8 => ?_) (fun hc8 => ?_)
      · have h := (if_pos hc8).symm.trans h
        refine ok_aload_n dX5_refuse_52 0 rfl ?_
        refine ok_getR (ci := 5) (k := 0) dX5_refuse_53 flRX5_22 rfl hW hZ0 (by decide) ?_
        refine ok_getI (ci := 8) (k := 4) dX5_refuse_56 flRX5_68 rfl hT5 (by decide) ?_
        obtain ⟨I9, eI9, h⟩ := blE h
        refine ok_putI2 (ci := 5) (k := 7) dX5_refuse_59 flRX5_18 rfl (Or.inl rfl) hZ0 (by decide) eI9 ?_
        refine ok_iconst (v := 0) dX5_refuse_62 (by decide) ?_
        cases h
        exact ok_iret dX5_refuse_63 (hQ (Or.inl rfl))
      · have h := (if_neg hc8).symm.trans h
        refine ok_aload_n dX5_refuse_37 0 rfl ?_
        refine ok_getR (ci := 5) (k := 0) dX5_refuse_38 flRX5_22 rfl hW hZ0 (by decide) ?_
        have hT10 : Z[(rO O (rO O a0 0) 2)]? = some (13, 301) := (wt_f (ci := 8) (k := 2) hW hT5 rfl).2
        refine ok_getR (ci := 8) (k := 2) dX5_refuse_41 flRX5_65 rfl hW hT5 (by decide) ?_
        refine ok_aload_n dX5_refuse_44 0 rfl ?_
        refine ok_getI (ci := 5) (k := 2) dX5_refuse_45 flRX5_47 rfl hZ0 (by decide) ?_
        obtain ⟨hg11, h⟩ := gd h
        refine ok_iald2 (N := (I1 a0 2).toNatClampNeg) dX5_refuse_48 hT10 hg11 rfl ?_
        refine ok_goto (t := 59) dX5_refuse_49 (by decide) ?_
        obtain ⟨I12, eI12, h⟩ := blE h
        refine ok_putI2 (ci := 5) (k := 7) dX5_refuse_59 flRX5_18 rfl (Or.inl rfl) hZ0 (by decide) eI12 ?_
        refine ok_iconst (v := 0) dX5_refuse_62 (by decide) ?_
        cases h
        exact ok_iret dX5_refuse_63 (hQ (Or.inl rfl))
theorem k5_refuse {g : pG} {Q : Option Value → pW → Prop} {Z : pZ} {I : (Nat → Nat → Int32)} {L : (Nat → Nat → Int64)} {O : (Nat → Nat → Option Nat)} {a0 : Nat} {x1 : Int32} {res : Int32 × (Nat → Nat → Int32)} (d : Nat) (hW : WT Z O) (hZ0 : Z[a0]? = some (5, 8)) (h : f5_refuse I O a0 x1 = some res) (hQ : Q (some (.int res.1)) (Z, res.2, L, O)) : CT g (d + 2) m5_refuse 0 0 [.ref a0, .int x1] (Z, I, L, O) Q :=
  ct_of_ok (mt := m5_refuse) (ini := false) mo5_refuse.2.2.2.2 (fun h => by cases h) (Nat.le_of_ble_eq_true rfl) (o5_refuse d hW hZ0 h (fun hb => ⟨hb, hQ, rfl, rfl⟩))
theorem dX5_expect_0 : decode cX5_expect 0 = .ok (.aload_n 0, 1) := by decide +kernel
theorem dX5_expect_1 : decode cX5_expect 1 = .ok (.getfield 36, 3) := by decide +kernel
theorem dX5_expect_4 : decode cX5_expect 4 = .ok (.iload_n 1, 1) := by decide +kernel
theorem dX5_expect_5 : decode cX5_expect 5 = .ok (.if_icmp .eq 9, 3) := by decide +kernel
theorem dX5_expect_8 : decode cX5_expect 8 = .ok (.aload_n 0, 1) := by decide +kernel
theorem dX5_expect_9 : decode cX5_expect 9 = .ok (.iconst 1, 1) := by decide +kernel
theorem dX5_expect_10 : decode cX5_expect 10 = .ok (.invokevirtual 71, 3) := by decide +kernel
theorem dX5_expect_13 : decode cX5_expect 13 = .ok (.ireturn, 1) := by decide +kernel
theorem dX5_expect_14 : decode cX5_expect 14 = .ok (.aload_n 0, 1) := by decide +kernel
theorem dX5_expect_15 : decode cX5_expect 15 = .ok (.aload_n 0, 1) := by decide +kernel
theorem dX5_expect_16 : decode cX5_expect 16 = .ok (.getfield 47, 3) := by decide +kernel
theorem dX5_expect_19 : decode cX5_expect 19 = .ok (.iconst 1, 1) := by decide +kernel
theorem dX5_expect_20 : decode cX5_expect 20 = .ok (.iadd, 1) := by decide +kernel
theorem dX5_expect_21 : decode cX5_expect 21 = .ok (.invokevirtual 32, 3) := by decide +kernel
theorem dX5_expect_24 : decode cX5_expect 24 = .ok (.iconst 1, 1) := by decide +kernel
theorem dX5_expect_25 : decode cX5_expect 25 = .ok (.ireturn, 1) := by decide +kernel
def m5_expect : pMT := (yX5_expect, cX5_expect, 2, some .boolean)
theorem mo5_expect : mOK m5_expect 1 := ⟨tb_i 588 (by decide +kernel), wi_RX5, ⟨wn_RX5.1, wn_RX5.2, by decide +kernel⟩, by decide, plainFor_of_name wp_RX5⟩
theorem mv5_expect : mV m5_expect := ⟨tb_i 587 (by decide +kernel), tb_p 13 (by decide +kernel)⟩
def f5_expect (I : (Nat → Nat → Int32)) (O : (Nat → Nat → Option Nat)) (a0 : Nat) (x1 : Int32) : Option (Int32 × (Nat → Nat → Int32)) := (if (I a0 3) = x1 then (f5_comeTo I O a0 ((I a0 2) + 1)).bind fun r2 => some ((1 : Int32), r2) else (f5_refuse I O a0 (1 : Int32)).bind fun r4 => some (r4.1, r4.2))
set_option maxHeartbeats 4000000 in
set_option maxRecDepth 20000 in
theorem o5_expect {g : pG} {Qx : Option Value → pW → Prop} {Z : pZ} {I : (Nat → Nat → Int32)} {L : (Nat → Nat → Int64)} {O : (Nat → Nat → Option Nat)} {a0 : Nat} {x1 : Int32} {res : Int32 × (Nat → Nat → Int32)} (d : Nat) (hW : WT Z O) (hZ0 : Z[a0]? = some (5, 8)) (h : f5_expect I O a0 x1 = some res) (hQ : (res.1 = 0 ∨ res.1 = 1) → Qx (some (.int res.1)) (Z, res.2, L, O)) : Ok g (d + 3, RX5, cX5_expect, 2, false, 0, 0, Z.length, pSl Z) Qx 0 [(0, .ref a0), (1, .int x1)] [] (Z, I, L, O) := by
  unfold f5_expect at h
  refine ok_aload_n dX5_expect_0 0 rfl ?_
  refine ok_getI (ci := 5) (k := 3) dX5_expect_1 flRX5_36 rfl hZ0 (by decide) ?_
  refine ok_iload_n dX5_expect_4 1 rfl ?_
  refine ok_icmp_eq (t := 14) dX5_expect_5 (by decide) (fun hc1 => ?_) (fun hc1 => ?_)
  · have h := (if_pos hc1).symm.trans h
    refine ok_aload_n dX5_expect_14 0 rfl ?_
    refine ok_aload_n dX5_expect_15 0 rfl ?_
    refine ok_getI (ci := 5) (k := 2) dX5_expect_16 flRX5_47 rfl hZ0 (by decide) ?_
    refine ok_iconst (v := 1) dX5_expect_19 (by decide) ?_
    refine ok_iadd dX5_expect_20 ?_
    obtain ⟨r2, hr3, h⟩ := bd h
    refine ok_callV (d := ((d + 0) + 2)) (mt := m5_comeTo) (mc := 0) (ms := 0) (As := [.int ((I a0 2) + 1)]) (r := []) dX5_expect_21 mo5_comeTo mv5_comeTo lkRX5_32 rfl hZ0 (q := (RX5, TX5, 8)) rfl rfl rfl (Nat.le_of_ble_eq_true rfl) (by show _ + 1 ≤ d + _; omega) (Nat.le_refl _) (Nat.le_refl _) (pRt_mono ?_)
    refine k5_comeTo (d + 0) hW hZ0 hr3 ?_
    intro _
    show Ok g _ Qx 24 [(0, .ref a0), (1, .int x1)] [] (Z, r2, L, O)
    refine ok_iconst (v := 1) dX5_expect_24 (by decide) ?_
    cases h
    exact ok_iret dX5_expect_25 (hQ (Or.inr rfl))
  · have h := (if_neg hc1).symm.trans h
    refine ok_aload_n dX5_expect_8 0 rfl ?_
    refine ok_iconst (v := 1) dX5_expect_9 (by decide) ?_
    obtain ⟨r4, hr5, h⟩ := bd h
    refine ok_callV (d := ((d + 0) + 2)) (mt := m5_refuse) (mc := 0) (ms := 0) (As := [.int 1]) (r := []) dX5_expect_10 mo5_refuse mv5_refuse lkRX5_71 rfl hZ0 (q := (RX5, TX5, 8)) rfl rfl rfl (Nat.le_of_ble_eq_true rfl) (by show _ + 1 ≤ d + _; omega) (Nat.le_refl _) (Nat.le_refl _) (pRt_mono ?_)
    refine k5_refuse (d + 0) hW hZ0 hr5 ?_
    intro hbr4
    show Ok g _ Qx 13 [(0, .ref a0), (1, .int x1)] [.int r4.1] (Z, r4.2, L, O)
    cases h
    exact ok_iret dX5_expect_13 (hQ hbr4)
theorem k5_expect {g : pG} {Q : Option Value → pW → Prop} {Z : pZ} {I : (Nat → Nat → Int32)} {L : (Nat → Nat → Int64)} {O : (Nat → Nat → Option Nat)} {a0 : Nat} {x1 : Int32} {res : Int32 × (Nat → Nat → Int32)} (d : Nat) (hW : WT Z O) (hZ0 : Z[a0]? = some (5, 8)) (h : f5_expect I O a0 x1 = some res) (hQ : Q (some (.int res.1)) (Z, res.2, L, O)) : CT g (d + 3) m5_expect 0 0 [.ref a0, .int x1] (Z, I, L, O) Q :=
  ct_of_ok (mt := m5_expect) (ini := false) mo5_expect.2.2.2.2 (fun h => by cases h) (Nat.le_of_ble_eq_true rfl) (o5_expect d hW hZ0 h (fun hb => ⟨hb, hQ, rfl, rfl⟩))
theorem dX5_canBegin_0 : decode cX5_canBegin 0 = .ok (.iload_n 1, 1) := by decide +kernel
theorem dX5_canBegin_1 : decode cX5_canBegin 1 = .ok (.ifCond .lt 9, 3) := by decide +kernel
theorem dX5_canBegin_4 : decode cX5_canBegin 4 = .ok (.iload_n 1, 1) := by decide +kernel
theorem dX5_canBegin_5 : decode cX5_canBegin 5 = .ok (.bipush 8, 2) := by decide +kernel
theorem dX5_canBegin_7 : decode cX5_canBegin 7 = .ok (.if_icmp .le 9, 3) := by decide +kernel
theorem dX5_canBegin_10 : decode cX5_canBegin 10 = .ok (.aload_n 0, 1) := by decide +kernel
theorem dX5_canBegin_11 : decode cX5_canBegin 11 = .ok (.iconst 1, 1) := by decide +kernel
theorem dX5_canBegin_12 : decode cX5_canBegin 12 = .ok (.invokevirtual 71, 3) := by decide +kernel
theorem dX5_canBegin_15 : decode cX5_canBegin 15 = .ok (.ireturn, 1) := by decide +kernel
theorem dX5_canBegin_16 : decode cX5_canBegin 16 = .ok (.aload_n 0, 1) := by decide +kernel
theorem dX5_canBegin_17 : decode cX5_canBegin 17 = .ok (.getfield 12, 3) := by decide +kernel
theorem dX5_canBegin_20 : decode cX5_canBegin 20 = .ok (.iload_n 1, 1) := by decide +kernel
theorem dX5_canBegin_21 : decode cX5_canBegin 21 = .ok (.invokevirtual 94, 3) := by decide +kernel
theorem dX5_canBegin_24 : decode cX5_canBegin 24 = .ok (.ifCond .eq 9, 3) := by decide +kernel
theorem dX5_canBegin_27 : decode cX5_canBegin 27 = .ok (.aload_n 0, 1) := by decide +kernel
theorem dX5_canBegin_28 : decode cX5_canBegin 28 = .ok (.iconst 4, 1) := by decide +kernel
theorem dX5_canBegin_29 : decode cX5_canBegin 29 = .ok (.invokevirtual 71, 3) := by decide +kernel
theorem dX5_canBegin_32 : decode cX5_canBegin 32 = .ok (.ireturn, 1) := by decide +kernel
theorem dX5_canBegin_33 : decode cX5_canBegin 33 = .ok (.aload_n 0, 1) := by decide +kernel
theorem dX5_canBegin_34 : decode cX5_canBegin 34 = .ok (.getfield 12, 3) := by decide +kernel
theorem dX5_canBegin_37 : decode cX5_canBegin 37 = .ok (.getfield 97, 3) := by decide +kernel
theorem dX5_canBegin_40 : decode cX5_canBegin 40 = .ok (.bipush 24, 2) := by decide +kernel
theorem dX5_canBegin_42 : decode cX5_canBegin 42 = .ok (.if_icmp .lt 12, 3) := by decide +kernel
theorem dX5_canBegin_45 : decode cX5_canBegin 45 = .ok (.aload_n 0, 1) := by decide +kernel
theorem dX5_canBegin_46 : decode cX5_canBegin 46 = .ok (.bipush 6, 2) := by decide +kernel
theorem dX5_canBegin_48 : decode cX5_canBegin 48 = .ok (.invokevirtual 71, 3) := by decide +kernel
theorem dX5_canBegin_51 : decode cX5_canBegin 51 = .ok (.ifCond .eq 7, 3) := by decide +kernel
theorem dX5_canBegin_54 : decode cX5_canBegin 54 = .ok (.iconst 1, 1) := by decide +kernel
theorem dX5_canBegin_55 : decode cX5_canBegin 55 = .ok (.goto 4, 3) := by decide +kernel
theorem dX5_canBegin_58 : decode cX5_canBegin 58 = .ok (.iconst 0, 1) := by decide +kernel
theorem dX5_canBegin_59 : decode cX5_canBegin 59 = .ok (.ireturn, 1) := by decide +kernel
def m5_canBegin : pMT := (yX5_canBegin, cX5_canBegin, 2, some .boolean)
theorem mo5_canBegin : mOK m5_canBegin 1 := ⟨tb_i 552 (by decide +kernel), wi_RX5, ⟨wn_RX5.1, wn_RX5.2, by decide +kernel⟩, by decide, plainFor_of_name wp_RX5⟩
theorem mv5_canBegin : mV m5_canBegin := ⟨tb_i 551 (by decide +kernel), tb_p 8 (by decide +kernel)⟩
def f5_canBegin (I : (Nat → Nat → Int32)) (O : (Nat → Nat → Option Nat)) (a0 : Nat) (x1 : Int32) : Option (Int32 × (Nat → Nat → Int32)) := (if x1 < 0 then (f5_refuse I O a0 (1 : Int32)).bind fun r2 => some (r2.1, r2.2) else (if x1 ≤ (8 : Int32) then (f7_hasLaw I O (rO O a0 1) x1).bind fun r6 => (if r6 = 0 then (if (I (rO O a0 1) 6) < (24 : Int32) then some ((1 : Int32), I) else (f5_refuse I O a0 (6 : Int32)).bind fun r10 => (if r10.1 = 0 then some ((0 : Int32), r10.2) else some ((1 : Int32), r10.2))) else (f5_refuse I O a0 (4 : Int32)).bind fun r13 => some (r13.1, r13.2)) else (f5_refuse I O a0 (1 : Int32)).bind fun r15 => some (r15.1, r15.2)))
set_option maxHeartbeats 4000000 in
set_option maxRecDepth 20000 in
theorem o5_canBegin {g : pG} {Qx : Option Value → pW → Prop} {Z : pZ} {I : (Nat → Nat → Int32)} {L : (Nat → Nat → Int64)} {O : (Nat → Nat → Option Nat)} {a0 : Nat} {x1 : Int32} {res : Int32 × (Nat → Nat → Int32)} (d : Nat) (hW : WT Z O) (hZ0 : Z[a0]? = some (5, 8)) (h : f5_canBegin I O a0 x1 = some res) (hQ : (res.1 = 0 ∨ res.1 = 1) → Qx (some (.int res.1)) (Z, res.2, L, O)) : Ok g (d + 4, RX5, cX5_canBegin, 2, false, 0, 0, Z.length, pSl Z) Qx 0 [(0, .ref a0), (1, .int x1)] [] (Z, I, L, O) := by
  unfold f5_canBegin at h
  refine ok_iload_n dX5_canBegin_0 1 rfl ?_
  refine ok_if_lt (t := 10) dX5_canBegin_1 (by decide) (fun hc1 => ?_) (fun hc1 => ?_)
  · have h := (if_pos hc1).symm.trans h
    refine ok_aload_n dX5_canBegin_10 0 rfl ?_
    refine ok_iconst (v := 1) dX5_canBegin_11 (by decide) ?_
    obtain ⟨r2, hr3, h⟩ := bd h
    refine ok_callV (d := ((d + 1) + 2)) (mt := m5_refuse) (mc := 0) (ms := 0) (As := [.int 1]) (r := []) dX5_canBegin_12 mo5_refuse mv5_refuse lkRX5_71 rfl hZ0 (q := (RX5, TX5, 8)) rfl rfl rfl (Nat.le_of_ble_eq_true rfl) (by show _ + 1 ≤ d + _; omega) (Nat.le_refl _) (Nat.le_refl _) (pRt_mono ?_)
    refine k5_refuse (d + 1) hW hZ0 hr3 ?_
    intro hbr2
    show Ok g _ Qx 15 [(0, .ref a0), (1, .int x1)] [.int r2.1] (Z, r2.2, L, O)
    cases h
    exact ok_iret dX5_canBegin_15 (hQ hbr2)
  · have h := (if_neg hc1).symm.trans h
    refine ok_iload_n dX5_canBegin_4 1 rfl ?_
    refine ok_bipush (v := 8) dX5_canBegin_5 (by decide) ?_
    refine ok_icmp_le (t := 16) dX5_canBegin_7 (by decide) (fun hc4 => ?_) (fun hc4 => ?_)
    · have h := (if_pos hc4).symm.trans h
      refine ok_aload_n dX5_canBegin_16 0 rfl ?_
      have hT5 : Z[(rO O a0 1)]? = some (7, 7) := (wt_f (ci := 5) (k := 1) hW hZ0 rfl).2
      refine ok_getR (ci := 5) (k := 1) dX5_canBegin_17 flRX5_12 rfl hW hZ0 (by decide) ?_
      refine ok_iload_n dX5_canBegin_20 1 rfl ?_
      obtain ⟨r6, hr7, h⟩ := bd h
      refine ok_callV (d := ((d + 0) + 3)) (mt := m7_hasLaw) (mc := 0) (ms := 0) (As := [.int x1]) (r := []) dX5_canBegin_21 mo7_hasLaw mv7_hasLaw lkRX5_94 rfl hT5 (q := (RX7, TX7, 7)) rfl rfl rfl (Nat.le_of_ble_eq_true rfl) (by show _ + 1 ≤ d + _; omega) (Nat.le_refl _) (Nat.le_refl _) (pRt_mono ?_)
      refine k7_hasLaw (d + 0) hW hT5 hr7 ?_
      intro hbr6
      show Ok g _ Qx 24 [(0, .ref a0), (1, .int x1)] [.int r6] (Z, I, L, O)
      refine ok_if_eq (t := 33) dX5_canBegin_24 (by decide) (fun hc8 => ?_) (fun hc8 => ?_)
      · have h := (if_pos hc8).symm.trans h
        refine ok_aload_n dX5_canBegin_33 0 rfl ?_
        refine ok_getR (ci := 5) (k := 1) dX5_canBegin_34 flRX5_12 rfl hW hZ0 (by decide) ?_
        refine ok_getI (ci := 7) (k := 6) dX5_canBegin_37 flRX5_97 rfl hT5 (by decide) ?_
        refine ok_bipush (v := 24) dX5_canBegin_40 (by decide) ?_
        refine ok_icmp_lt (t := 54) dX5_canBegin_42 (by decide) (fun hc9 => ?_) (fun hc9 => ?_)
        · have h := (if_pos hc9).symm.trans h
          refine ok_iconst (v := 1) dX5_canBegin_54 (by decide) ?_
          refine ok_goto (t := 59) dX5_canBegin_55 (by decide) ?_
          cases h
          exact ok_iret dX5_canBegin_59 (hQ (Or.inr rfl))
        · have h := (if_neg hc9).symm.trans h
          refine ok_aload_n dX5_canBegin_45 0 rfl ?_
          refine ok_bipush (v := 6) dX5_canBegin_46 (by decide) ?_
          obtain ⟨r10, hr11, h⟩ := bd h
          refine ok_callV (d := ((d + 1) + 2)) (mt := m5_refuse) (mc := 0) (ms := 0) (As := [.int 6]) (r := []) dX5_canBegin_48 mo5_refuse mv5_refuse lkRX5_71 rfl hZ0 (q := (RX5, TX5, 8)) rfl rfl rfl (Nat.le_of_ble_eq_true rfl) (by show _ + 1 ≤ d + _; omega) (Nat.le_refl _) (Nat.le_refl _) (pRt_mono ?_)
          refine k5_refuse (d + 1) hW hZ0 hr11 ?_
          intro hbr10
          show Ok g _ Qx 51 [(0, .ref a0), (1, .int x1)] [.int r10.1] (Z, r10.2, L, O)
          refine ok_if_eq (t := 58) dX5_canBegin_51 (by decide) (fun hc12 => ?_) (fun hc12 => ?_)
          · have h := (if_pos hc12).symm.trans h
            refine ok_iconst (v := 0) dX5_canBegin_58 (by decide) ?_
            cases h
            exact ok_iret dX5_canBegin_59 (hQ (Or.inl rfl))
          · have h := (if_neg hc12).symm.trans h
            refine ok_iconst (v := 1) dX5_canBegin_54 (by decide) ?_
            refine ok_goto (t := 59) dX5_canBegin_55 (by decide) ?_
            cases h
            exact ok_iret dX5_canBegin_59 (hQ (Or.inr rfl))
      · have h := (if_neg hc8).symm.trans h
        refine ok_aload_n dX5_canBegin_27 0 rfl ?_
        refine ok_iconst (v := 4) dX5_canBegin_28 (by decide) ?_
        obtain ⟨r13, hr14, h⟩ := bd h
        refine ok_callV (d := ((d + 1) + 2)) (mt := m5_refuse) (mc := 0) (ms := 0) (As := [.int 4]) (r := []) dX5_canBegin_29 mo5_refuse mv5_refuse lkRX5_71 rfl hZ0 (q := (RX5, TX5, 8)) rfl rfl rfl (Nat.le_of_ble_eq_true rfl) (by show _ + 1 ≤ d + _; omega) (Nat.le_refl _) (Nat.le_refl _) (pRt_mono ?_)
        refine k5_refuse (d + 1) hW hZ0 hr14 ?_
        intro hbr13
        show Ok g _ Qx 32 [(0, .ref a0), (1, .int x1)] [.int r13.1] (Z, r13.2, L, O)
        cases h
        exact ok_iret dX5_canBegin_32 (hQ hbr13)
    · have h := (if_neg hc4).symm.trans h
      refine ok_aload_n dX5_canBegin_10 0 rfl ?_
      refine ok_iconst (v := 1) dX5_canBegin_11 (by decide) ?_
      obtain ⟨r15, hr16, h⟩ := bd h
      refine ok_callV (d := ((d + 1) + 2)) (mt := m5_refuse) (mc := 0) (ms := 0) (As := [.int 1]) (r := []) dX5_canBegin_12 mo5_refuse mv5_refuse lkRX5_71 rfl hZ0 (q := (RX5, TX5, 8)) rfl rfl rfl (Nat.le_of_ble_eq_true rfl) (by show _ + 1 ≤ d + _; omega) (Nat.le_refl _) (Nat.le_refl _) (pRt_mono ?_)
      refine k5_refuse (d + 1) hW hZ0 hr16 ?_
      intro hbr15
      show Ok g _ Qx 15 [(0, .ref a0), (1, .int x1)] [.int r15.1] (Z, r15.2, L, O)
      cases h
      exact ok_iret dX5_canBegin_15 (hQ hbr15)
theorem k5_canBegin {g : pG} {Q : Option Value → pW → Prop} {Z : pZ} {I : (Nat → Nat → Int32)} {L : (Nat → Nat → Int64)} {O : (Nat → Nat → Option Nat)} {a0 : Nat} {x1 : Int32} {res : Int32 × (Nat → Nat → Int32)} (d : Nat) (hW : WT Z O) (hZ0 : Z[a0]? = some (5, 8)) (h : f5_canBegin I O a0 x1 = some res) (hQ : Q (some (.int res.1)) (Z, res.2, L, O)) : CT g (d + 4) m5_canBegin 0 0 [.ref a0, .int x1] (Z, I, L, O) Q :=
  ct_of_ok (mt := m5_canBegin) (ini := false) mo5_canBegin.2.2.2.2 (fun h => by cases h) (Nat.le_of_ble_eq_true rfl) (o5_canBegin d hW hZ0 h (fun hb => ⟨hb, hQ, rfl, rfl⟩))
theorem dX5_isNumber_0 : decode cX5_isNumber 0 = .ok (.aload_n 0, 1) := by decide +kernel
theorem dX5_isNumber_1 : decode cX5_isNumber 1 = .ok (.getfield 36, 3) := by decide +kernel
theorem dX5_isNumber_4 : decode cX5_isNumber 4 = .ok (.bipush 28, 2) := by decide +kernel
theorem dX5_isNumber_6 : decode cX5_isNumber 6 = .ok (.if_icmp .eq 9, 3) := by decide +kernel
theorem dX5_isNumber_9 : decode cX5_isNumber 9 = .ok (.aload_n 0, 1) := by decide +kernel
theorem dX5_isNumber_10 : decode cX5_isNumber 10 = .ok (.iconst 1, 1) := by decide +kernel
theorem dX5_isNumber_11 : decode cX5_isNumber 11 = .ok (.invokevirtual 71, 3) := by decide +kernel
theorem dX5_isNumber_14 : decode cX5_isNumber 14 = .ok (.ireturn, 1) := by decide +kernel
theorem dX5_isNumber_15 : decode cX5_isNumber 15 = .ok (.aload_n 0, 1) := by decide +kernel
theorem dX5_isNumber_16 : decode cX5_isNumber 16 = .ok (.getfield 62, 3) := by decide +kernel
theorem dX5_isNumber_19 : decode cX5_isNumber 19 = .ok (.iload_n 1, 1) := by decide +kernel
theorem dX5_isNumber_20 : decode cX5_isNumber 20 = .ok (.if_icmp .lt 11, 3) := by decide +kernel
theorem dX5_isNumber_23 : decode cX5_isNumber 23 = .ok (.aload_n 0, 1) := by decide +kernel
theorem dX5_isNumber_24 : decode cX5_isNumber 24 = .ok (.getfield 62, 3) := by decide +kernel
theorem dX5_isNumber_27 : decode cX5_isNumber 27 = .ok (.iload_n 2, 1) := by decide +kernel
theorem dX5_isNumber_28 : decode cX5_isNumber 28 = .ok (.if_icmp .le 11, 3) := by decide +kernel
theorem dX5_isNumber_31 : decode cX5_isNumber 31 = .ok (.aload_n 0, 1) := by decide +kernel
theorem dX5_isNumber_32 : decode cX5_isNumber 32 = .ok (.iconst 2, 1) := by decide +kernel
theorem dX5_isNumber_33 : decode cX5_isNumber 33 = .ok (.invokevirtual 71, 3) := by decide +kernel
theorem dX5_isNumber_36 : decode cX5_isNumber 36 = .ok (.ifCond .eq 7, 3) := by decide +kernel
theorem dX5_isNumber_39 : decode cX5_isNumber 39 = .ok (.iconst 1, 1) := by decide +kernel
theorem dX5_isNumber_40 : decode cX5_isNumber 40 = .ok (.goto 4, 3) := by decide +kernel
theorem dX5_isNumber_43 : decode cX5_isNumber 43 = .ok (.iconst 0, 1) := by decide +kernel
theorem dX5_isNumber_44 : decode cX5_isNumber 44 = .ok (.ireturn, 1) := by decide +kernel
def m5_isNumber : pMT := (yX5_isNumber, cX5_isNumber, 3, some .boolean)
theorem mo5_isNumber : mOK m5_isNumber 2 := ⟨tb_i 576 (by decide +kernel), wi_RX5, ⟨wn_RX5.1, wn_RX5.2, by decide +kernel⟩, by decide, plainFor_of_name wp_RX5⟩
theorem mv5_isNumber : mV m5_isNumber := ⟨tb_i 575 (by decide +kernel), tb_p 11 (by decide +kernel)⟩
def f5_isNumber (I : (Nat → Nat → Int32)) (O : (Nat → Nat → Option Nat)) (a0 : Nat) (x1 : Int32) (x2 : Int32) : Option (Int32 × (Nat → Nat → Int32)) := (if (I a0 3) = (28 : Int32) then (if (I a0 4) < x1 then (f5_refuse I O a0 (2 : Int32)).bind fun r3 => (if r3.1 = 0 then some ((0 : Int32), r3.2) else some ((1 : Int32), r3.2)) else (if (I a0 4) ≤ x2 then some ((1 : Int32), I) else (f5_refuse I O a0 (2 : Int32)).bind fun r7 => (if r7.1 = 0 then some ((0 : Int32), r7.2) else some ((1 : Int32), r7.2)))) else (f5_refuse I O a0 (1 : Int32)).bind fun r10 => some (r10.1, r10.2))
set_option maxHeartbeats 4000000 in
set_option maxRecDepth 20000 in
theorem o5_isNumber {g : pG} {Qx : Option Value → pW → Prop} {Z : pZ} {I : (Nat → Nat → Int32)} {L : (Nat → Nat → Int64)} {O : (Nat → Nat → Option Nat)} {a0 : Nat} {x1 : Int32} {x2 : Int32} {res : Int32 × (Nat → Nat → Int32)} (d : Nat) (hW : WT Z O) (hZ0 : Z[a0]? = some (5, 8)) (h : f5_isNumber I O a0 x1 x2 = some res) (hQ : (res.1 = 0 ∨ res.1 = 1) → Qx (some (.int res.1)) (Z, res.2, L, O)) : Ok g (d + 3, RX5, cX5_isNumber, 3, false, 0, 0, Z.length, pSl Z) Qx 0 [(0, .ref a0), (1, .int x1), (2, .int x2)] [] (Z, I, L, O) := by
  unfold f5_isNumber at h
  refine ok_aload_n dX5_isNumber_0 0 rfl ?_
  refine ok_getI (ci := 5) (k := 3) dX5_isNumber_1 flRX5_36 rfl hZ0 (by decide) ?_
  refine ok_bipush (v := 28) dX5_isNumber_4 (by decide) ?_
  refine ok_icmp_eq (t := 15) dX5_isNumber_6 (by decide) (fun hc1 => ?_) (fun hc1 => ?_)
  · have h := (if_pos hc1).symm.trans h
    refine ok_aload_n dX5_isNumber_15 0 rfl ?_
    refine ok_getI (ci := 5) (k := 4) dX5_isNumber_16 flRX5_62 rfl hZ0 (by decide) ?_
    refine ok_iload_n dX5_isNumber_19 1 rfl ?_
    refine ok_icmp_lt (t := 31) dX5_isNumber_20 (by decide) (fun hc2 => ?_) (fun hc2 => ?_)
    · have h := (if_pos hc2).symm.trans h
      refine ok_aload_n dX5_isNumber_31 0 rfl ?_
      refine ok_iconst (v := 2) dX5_isNumber_32 (by decide) ?_
      obtain ⟨r3, hr4, h⟩ := bd h
      refine ok_callV (d := ((d + 0) + 2)) (mt := m5_refuse) (mc := 0) (ms := 0) (As := [.int 2]) (r := []) dX5_isNumber_33 mo5_refuse mv5_refuse lkRX5_71 rfl hZ0 (q := (RX5, TX5, 8)) rfl rfl rfl (Nat.le_of_ble_eq_true rfl) (by show _ + 1 ≤ d + _; omega) (Nat.le_refl _) (Nat.le_refl _) (pRt_mono ?_)
      refine k5_refuse (d + 0) hW hZ0 hr4 ?_
      intro hbr3
      show Ok g _ Qx 36 [(0, .ref a0), (1, .int x1), (2, .int x2)] [.int r3.1] (Z, r3.2, L, O)
      refine ok_if_eq (t := 43) dX5_isNumber_36 (by decide) (fun hc5 => ?_) (fun hc5 => ?_)
      · have h := (if_pos hc5).symm.trans h
        refine ok_iconst (v := 0) dX5_isNumber_43 (by decide) ?_
        cases h
        exact ok_iret dX5_isNumber_44 (hQ (Or.inl rfl))
      · have h := (if_neg hc5).symm.trans h
        refine ok_iconst (v := 1) dX5_isNumber_39 (by decide) ?_
        refine ok_goto (t := 44) dX5_isNumber_40 (by decide) ?_
        cases h
        exact ok_iret dX5_isNumber_44 (hQ (Or.inr rfl))
    · have h := (if_neg hc2).symm.trans h
      refine ok_aload_n dX5_isNumber_23 0 rfl ?_
      refine ok_getI (ci := 5) (k := 4) dX5_isNumber_24 flRX5_62 rfl hZ0 (by decide) ?_
      refine ok_iload_n dX5_isNumber_27 2 rfl ?_
      refine ok_icmp_le (t := 39) dX5_isNumber_28 (by decide) (fun hc6 => ?_) (fun hc6 => ?_)
      · have h := (if_pos hc6).symm.trans h
        refine ok_iconst (v := 1) dX5_isNumber_39 (by decide) ?_
        refine ok_goto (t := 44) dX5_isNumber_40 (by decide) ?_
        cases h
        exact ok_iret dX5_isNumber_44 (hQ (Or.inr rfl))
      · have h := (if_neg hc6).symm.trans h
        refine ok_aload_n dX5_isNumber_31 0 rfl ?_
        refine ok_iconst (v := 2) dX5_isNumber_32 (by decide) ?_
        obtain ⟨r7, hr8, h⟩ := bd h
        refine ok_callV (d := ((d + 0) + 2)) (mt := m5_refuse) (mc := 0) (ms := 0) (As := [.int 2]) (r := []) dX5_isNumber_33 mo5_refuse mv5_refuse lkRX5_71 rfl hZ0 (q := (RX5, TX5, 8)) rfl rfl rfl (Nat.le_of_ble_eq_true rfl) (by show _ + 1 ≤ d + _; omega) (Nat.le_refl _) (Nat.le_refl _) (pRt_mono ?_)
        refine k5_refuse (d + 0) hW hZ0 hr8 ?_
        intro hbr7
        show Ok g _ Qx 36 [(0, .ref a0), (1, .int x1), (2, .int x2)] [.int r7.1] (Z, r7.2, L, O)
        refine ok_if_eq (t := 43) dX5_isNumber_36 (by decide) (fun hc9 => ?_) (fun hc9 => ?_)
        · have h := (if_pos hc9).symm.trans h
          refine ok_iconst (v := 0) dX5_isNumber_43 (by decide) ?_
          cases h
          exact ok_iret dX5_isNumber_44 (hQ (Or.inl rfl))
        · have h := (if_neg hc9).symm.trans h
          refine ok_iconst (v := 1) dX5_isNumber_39 (by decide) ?_
          refine ok_goto (t := 44) dX5_isNumber_40 (by decide) ?_
          cases h
          exact ok_iret dX5_isNumber_44 (hQ (Or.inr rfl))
  · have h := (if_neg hc1).symm.trans h
    refine ok_aload_n dX5_isNumber_9 0 rfl ?_
    refine ok_iconst (v := 1) dX5_isNumber_10 (by decide) ?_
    obtain ⟨r10, hr11, h⟩ := bd h
    refine ok_callV (d := ((d + 0) + 2)) (mt := m5_refuse) (mc := 0) (ms := 0) (As := [.int 1]) (r := []) dX5_isNumber_11 mo5_refuse mv5_refuse lkRX5_71 rfl hZ0 (q := (RX5, TX5, 8)) rfl rfl rfl (Nat.le_of_ble_eq_true rfl) (by show _ + 1 ≤ d + _; omega) (Nat.le_refl _) (Nat.le_refl _) (pRt_mono ?_)
    refine k5_refuse (d + 0) hW hZ0 hr11 ?_
    intro hbr10
    show Ok g _ Qx 14 [(0, .ref a0), (1, .int x1), (2, .int x2)] [.int r10.1] (Z, r10.2, L, O)
    cases h
    exact ok_iret dX5_isNumber_14 (hQ hbr10)
theorem k5_isNumber {g : pG} {Q : Option Value → pW → Prop} {Z : pZ} {I : (Nat → Nat → Int32)} {L : (Nat → Nat → Int64)} {O : (Nat → Nat → Option Nat)} {a0 : Nat} {x1 : Int32} {x2 : Int32} {res : Int32 × (Nat → Nat → Int32)} (d : Nat) (hW : WT Z O) (hZ0 : Z[a0]? = some (5, 8)) (h : f5_isNumber I O a0 x1 x2 = some res) (hQ : Q (some (.int res.1)) (Z, res.2, L, O)) : CT g (d + 3) m5_isNumber 0 0 [.ref a0, .int x1, .int x2] (Z, I, L, O) Q :=
  ct_of_ok (mt := m5_isNumber) (ini := false) mo5_isNumber.2.2.2.2 (fun h => by cases h) (Nat.le_of_ble_eq_true rfl) (o5_isNumber d hW hZ0 h (fun hb => ⟨hb, hQ, rfl, rfl⟩))
theorem dX5_readPair_0 : decode cX5_readPair 0 = .ok (.aload_n 0, 1) := by decide +kernel
theorem dX5_readPair_1 : decode cX5_readPair 1 = .ok (.iload_n 2, 1) := by decide +kernel
theorem dX5_readPair_2 : decode cX5_readPair 2 = .ok (.iload_n 3, 1) := by decide +kernel
theorem dX5_readPair_3 : decode cX5_readPair 3 = .ok (.invokevirtual 100, 3) := by decide +kernel
theorem dX5_readPair_6 : decode cX5_readPair 6 = .ok (.ifCond .ne 5, 3) := by decide +kernel
theorem dX5_readPair_9 : decode cX5_readPair 9 = .ok (.iconst 0, 1) := by decide +kernel
theorem dX5_readPair_10 : decode cX5_readPair 10 = .ok (.ireturn, 1) := by decide +kernel
theorem dX5_readPair_11 : decode cX5_readPair 11 = .ok (.aload_n 0, 1) := by decide +kernel
theorem dX5_readPair_12 : decode cX5_readPair 12 = .ok (.getfield 62, 3) := by decide +kernel
theorem dX5_readPair_15 : decode cX5_readPair 15 = .ok (.istore 6, 2) := by decide +kernel
theorem dX5_readPair_17 : decode cX5_readPair 17 = .ok (.aload_n 0, 1) := by decide +kernel
theorem dX5_readPair_18 : decode cX5_readPair 18 = .ok (.aload_n 0, 1) := by decide +kernel
theorem dX5_readPair_19 : decode cX5_readPair 19 = .ok (.getfield 47, 3) := by decide +kernel
theorem dX5_readPair_22 : decode cX5_readPair 22 = .ok (.iconst 1, 1) := by decide +kernel
theorem dX5_readPair_23 : decode cX5_readPair 23 = .ok (.iadd, 1) := by decide +kernel
theorem dX5_readPair_24 : decode cX5_readPair 24 = .ok (.invokevirtual 32, 3) := by decide +kernel
theorem dX5_readPair_27 : decode cX5_readPair 27 = .ok (.aload_n 0, 1) := by decide +kernel
theorem dX5_readPair_28 : decode cX5_readPair 28 = .ok (.iload 4, 2) := by decide +kernel
theorem dX5_readPair_30 : decode cX5_readPair 30 = .ok (.invokevirtual 43, 3) := by decide +kernel
theorem dX5_readPair_33 : decode cX5_readPair 33 = .ok (.ifCond .eq 13, 3) := by decide +kernel
theorem dX5_readPair_36 : decode cX5_readPair 36 = .ok (.aload_n 0, 1) := by decide +kernel
theorem dX5_readPair_37 : decode cX5_readPair 37 = .ok (.iconst 0, 1) := by decide +kernel
theorem dX5_readPair_38 : decode cX5_readPair 38 = .ok (.iload 5, 2) := by decide +kernel
theorem dX5_readPair_40 : decode cX5_readPair 40 = .ok (.invokevirtual 100, 3) := by decide +kernel
theorem dX5_readPair_43 : decode cX5_readPair 43 = .ok (.ifCond .ne 5, 3) := by decide +kernel
theorem dX5_readPair_46 : decode cX5_readPair 46 = .ok (.iconst 0, 1) := by decide +kernel
theorem dX5_readPair_47 : decode cX5_readPair 47 = .ok (.ireturn, 1) := by decide +kernel
theorem dX5_readPair_48 : decode cX5_readPair 48 = .ok (.aload_n 0, 1) := by decide +kernel
theorem dX5_readPair_49 : decode cX5_readPair 49 = .ok (.getfield 12, 3) := by decide +kernel
theorem dX5_readPair_52 : decode cX5_readPair 52 = .ok (.iload_n 1, 1) := by decide +kernel
theorem dX5_readPair_53 : decode cX5_readPair 53 = .ok (.iload 6, 2) := by decide +kernel
theorem dX5_readPair_55 : decode cX5_readPair 55 = .ok (.aload_n 0, 1) := by decide +kernel
theorem dX5_readPair_56 : decode cX5_readPair 56 = .ok (.getfield 62, 3) := by decide +kernel
theorem dX5_readPair_59 : decode cX5_readPair 59 = .ok (.invokevirtual 77, 3) := by decide +kernel
theorem dX5_readPair_62 : decode cX5_readPair 62 = .ok (.aload_n 0, 1) := by decide +kernel
theorem dX5_readPair_63 : decode cX5_readPair 63 = .ok (.aload_n 0, 1) := by decide +kernel
theorem dX5_readPair_64 : decode cX5_readPair 64 = .ok (.getfield 47, 3) := by decide +kernel
theorem dX5_readPair_67 : decode cX5_readPair 67 = .ok (.iconst 1, 1) := by decide +kernel
theorem dX5_readPair_68 : decode cX5_readPair 68 = .ok (.iadd, 1) := by decide +kernel
theorem dX5_readPair_69 : decode cX5_readPair 69 = .ok (.invokevirtual 32, 3) := by decide +kernel
theorem dX5_readPair_72 : decode cX5_readPair 72 = .ok (.iconst 1, 1) := by decide +kernel
theorem dX5_readPair_73 : decode cX5_readPair 73 = .ok (.ireturn, 1) := by decide +kernel
def m5_readPair : pMT := (yX5_readPair, cX5_readPair, 7, some .boolean)
theorem mo5_readPair : mOK m5_readPair 5 := ⟨tb_i 584 (by decide +kernel), wi_RX5, ⟨wn_RX5.1, wn_RX5.2, by decide +kernel⟩, by decide, plainFor_of_name wp_RX5⟩
theorem mv5_readPair : mV m5_readPair := ⟨tb_i 583 (by decide +kernel), tb_p 12 (by decide +kernel)⟩
def f5_readPair (I : (Nat → Nat → Int32)) (O : (Nat → Nat → Option Nat)) (a0 : Nat) (x1 : Int32) (x2 : Int32) (x3 : Int32) (x4 : Int32) (x5 : Int32) : Option (Int32 × (Nat → Nat → Int32)) := (f5_isNumber I O a0 x2 x3).bind fun r1 => (if r1.1 = 0 then some ((0 : Int32), r1.2) else (f5_comeTo r1.2 O a0 ((r1.2 a0 2) + 1)).bind fun r4 => (f5_expect r4 O a0 x4).bind fun r6 => (if r6.1 = 0 then some ((0 : Int32), r6.2) else (f5_isNumber r6.2 O a0 (0 : Int32) x5).bind fun r9 => (if r9.1 = 0 then some ((0 : Int32), r9.2) else (f7_addClause r9.2 O (rO O a0 1) x1 (r1.2 a0 4) (r9.2 a0 4)).bind fun r13 => (f5_comeTo r13 O a0 ((r13 a0 2) + 1)).bind fun r15 => some ((1 : Int32), r15))))
set_option maxHeartbeats 4000000 in
set_option maxRecDepth 20000 in
theorem o5_readPair {g : pG} {Qx : Option Value → pW → Prop} {Z : pZ} {I : (Nat → Nat → Int32)} {L : (Nat → Nat → Int64)} {O : (Nat → Nat → Option Nat)} {a0 : Nat} {x1 : Int32} {x2 : Int32} {x3 : Int32} {x4 : Int32} {x5 : Int32} {res : Int32 × (Nat → Nat → Int32)} (d : Nat) (hW : WT Z O) (hZ0 : Z[a0]? = some (5, 8)) (h : f5_readPair I O a0 x1 x2 x3 x4 x5 = some res) (hQ : (res.1 = 0 ∨ res.1 = 1) → Qx (some (.int res.1)) (Z, res.2, L, O)) : Ok g (d + 4, RX5, cX5_readPair, 7, false, 0, 0, Z.length, pSl Z) Qx 0 [(0, .ref a0), (1, .int x1), (2, .int x2), (3, .int x3), (4, .int x4), (5, .int x5)] [] (Z, I, L, O) := by
  unfold f5_readPair at h
  refine ok_aload_n dX5_readPair_0 0 rfl ?_
  refine ok_iload_n dX5_readPair_1 2 rfl ?_
  refine ok_iload_n dX5_readPair_2 3 rfl ?_
  obtain ⟨r1, hr2, h⟩ := bd h
  refine ok_callV (d := ((d + 0) + 3)) (mt := m5_isNumber) (mc := 0) (ms := 0) (As := [.int x2, .int x3]) (r := []) dX5_readPair_3 mo5_isNumber mv5_isNumber lkRX5_100 rfl hZ0 (q := (RX5, TX5, 8)) rfl rfl rfl (Nat.le_of_ble_eq_true rfl) (by show _ + 1 ≤ d + _; omega) (Nat.le_refl _) (Nat.le_refl _) (pRt_mono ?_)
  refine k5_isNumber (d + 0) hW hZ0 hr2 ?_
  intro hbr1
  show Ok g _ Qx 6 [(0, .ref a0), (1, .int x1), (2, .int x2), (3, .int x3), (4, .int x4), (5, .int x5)] [.int r1.1] (Z, r1.2, L, O)
  refine ok_if_ne (t := 11) dX5_readPair_6 (by decide) (fun hc3 => ?_) (fun hc3 => ?_)
  · have h := (if_neg hc3).symm.trans h
    refine ok_aload_n dX5_readPair_11 0 rfl ?_
    refine ok_getI (ci := 5) (k := 4) dX5_readPair_12 flRX5_62 rfl hZ0 (by decide) ?_
    refine ok_istore (l' := [(6, .int (r1.2 a0 4)), (0, .ref a0), (1, .int x1), (2, .int x2), (3, .int x3), (4, .int x4), (5, .int x5)]) dX5_readPair_15 (Nat.le_of_ble_eq_true rfl) rfl ?_
    refine ok_aload_n dX5_readPair_17 1 rfl ?_
    refine ok_aload_n dX5_readPair_18 1 rfl ?_
    refine ok_getI (ci := 5) (k := 2) dX5_readPair_19 flRX5_47 rfl hZ0 (by decide) ?_
    refine ok_iconst (v := 1) dX5_readPair_22 (by decide) ?_
    refine ok_iadd dX5_readPair_23 ?_
    obtain ⟨r4, hr5, h⟩ := bd h
    refine ok_callV (d := ((d + 1) + 2)) (mt := m5_comeTo) (mc := 0) (ms := 0) (As := [.int ((r1.2 a0 2) + 1)]) (r := []) dX5_readPair_24 mo5_comeTo mv5_comeTo lkRX5_32 rfl hZ0 (q := (RX5, TX5, 8)) rfl rfl rfl (Nat.le_of_ble_eq_true rfl) (by show _ + 1 ≤ d + _; omega) (Nat.le_refl _) (Nat.le_refl _) (pRt_mono ?_)
    refine k5_comeTo (d + 1) hW hZ0 hr5 ?_
    intro _
    show Ok g _ Qx 27 [(6, .int (r1.2 a0 4)), (0, .ref a0), (1, .int x1), (2, .int x2), (3, .int x3), (4, .int x4), (5, .int x5)] [] (Z, r4, L, O)
    refine ok_aload_n dX5_readPair_27 1 rfl ?_
    refine ok_iload dX5_readPair_28 5 rfl ?_
    obtain ⟨r6, hr7, h⟩ := bd h
    refine ok_callV (d := ((d + 0) + 3)) (mt := m5_expect) (mc := 0) (ms := 0) (As := [.int x4]) (r := []) dX5_readPair_30 mo5_expect mv5_expect lkRX5_43 rfl hZ0 (q := (RX5, TX5, 8)) rfl rfl rfl (Nat.le_of_ble_eq_true rfl) (by show _ + 1 ≤ d + _; omega) (Nat.le_refl _) (Nat.le_refl _) (pRt_mono ?_)
    refine k5_expect (d + 0) hW hZ0 hr7 ?_
    intro hbr6
    show Ok g _ Qx 33 [(6, .int (r1.2 a0 4)), (0, .ref a0), (1, .int x1), (2, .int x2), (3, .int x3), (4, .int x4), (5, .int x5)] [.int r6.1] (Z, r6.2, L, O)
    refine ok_if_eq (t := 46) dX5_readPair_33 (by decide) (fun hc8 => ?_) (fun hc8 => ?_)
    · have h := (if_pos hc8).symm.trans h
      refine ok_iconst (v := 0) dX5_readPair_46 (by decide) ?_
      cases h
      exact ok_iret dX5_readPair_47 (hQ (Or.inl rfl))
    · have h := (if_neg hc8).symm.trans h
      refine ok_aload_n dX5_readPair_36 1 rfl ?_
      refine ok_iconst (v := 0) dX5_readPair_37 (by decide) ?_
      refine ok_iload dX5_readPair_38 6 rfl ?_
      obtain ⟨r9, hr10, h⟩ := bd h
      refine ok_callV (d := ((d + 0) + 3)) (mt := m5_isNumber) (mc := 0) (ms := 0) (As := [.int 0, .int x5]) (r := []) dX5_readPair_40 mo5_isNumber mv5_isNumber lkRX5_100 rfl hZ0 (q := (RX5, TX5, 8)) rfl rfl rfl (Nat.le_of_ble_eq_true rfl) (by show _ + 1 ≤ d + _; omega) (Nat.le_refl _) (Nat.le_refl _) (pRt_mono ?_)
      refine k5_isNumber (d + 0) hW hZ0 hr10 ?_
      intro hbr9
      show Ok g _ Qx 43 [(6, .int (r1.2 a0 4)), (0, .ref a0), (1, .int x1), (2, .int x2), (3, .int x3), (4, .int x4), (5, .int x5)] [.int r9.1] (Z, r9.2, L, O)
      refine ok_if_ne (t := 48) dX5_readPair_43 (by decide) (fun hc11 => ?_) (fun hc11 => ?_)
      · have h := (if_neg hc11).symm.trans h
        refine ok_aload_n dX5_readPair_48 1 rfl ?_
        have hT12 : Z[(rO O a0 1)]? = some (7, 7) := (wt_f (ci := 5) (k := 1) hW hZ0 rfl).2
        refine ok_getR (ci := 5) (k := 1) dX5_readPair_49 flRX5_12 rfl hW hZ0 (by decide) ?_
        refine ok_iload_n dX5_readPair_52 2 rfl ?_
        refine ok_iload dX5_readPair_53 0 rfl ?_
        refine ok_aload_n dX5_readPair_55 1 rfl ?_
        refine ok_getI (ci := 5) (k := 4) dX5_readPair_56 flRX5_62 rfl hZ0 (by decide) ?_
        obtain ⟨r13, hr14, h⟩ := bd h
        refine ok_callV (d := ((d + 1) + 2)) (mt := m7_addClause) (mc := 0) (ms := 0) (As := [.int x1, .int (r1.2 a0 4), .int (r9.2 a0 4)]) (r := []) dX5_readPair_59 mo7_addClause mv7_addClause lkRX5_77 rfl hT12 (q := (RX7, TX7, 7)) rfl rfl rfl (Nat.le_of_ble_eq_true rfl) (by show _ + 1 ≤ d + _; omega) (Nat.le_refl _) (Nat.le_refl _) (pRt_mono ?_)
        refine k7_addClause (d + 1) hW hT12 hr14 ?_
        intro _
        show Ok g _ Qx 62 [(6, .int (r1.2 a0 4)), (0, .ref a0), (1, .int x1), (2, .int x2), (3, .int x3), (4, .int x4), (5, .int x5)] [] (Z, r13, L, O)
        refine ok_aload_n dX5_readPair_62 1 rfl ?_
        refine ok_aload_n dX5_readPair_63 1 rfl ?_
        refine ok_getI (ci := 5) (k := 2) dX5_readPair_64 flRX5_47 rfl hZ0 (by decide) ?_
        refine ok_iconst (v := 1) dX5_readPair_67 (by decide) ?_
        refine ok_iadd dX5_readPair_68 ?_
        obtain ⟨r15, hr16, h⟩ := bd h
        refine ok_callV (d := ((d + 1) + 2)) (mt := m5_comeTo) (mc := 0) (ms := 0) (As := [.int ((r13 a0 2) + 1)]) (r := []) dX5_readPair_69 mo5_comeTo mv5_comeTo lkRX5_32 rfl hZ0 (q := (RX5, TX5, 8)) rfl rfl rfl (Nat.le_of_ble_eq_true rfl) (by show _ + 1 ≤ d + _; omega) (Nat.le_refl _) (Nat.le_refl _) (pRt_mono ?_)
        refine k5_comeTo (d + 1) hW hZ0 hr16 ?_
        intro _
        show Ok g _ Qx 72 [(6, .int (r1.2 a0 4)), (0, .ref a0), (1, .int x1), (2, .int x2), (3, .int x3), (4, .int x4), (5, .int x5)] [] (Z, r15, L, O)
        refine ok_iconst (v := 1) dX5_readPair_72 (by decide) ?_
        cases h
        exact ok_iret dX5_readPair_73 (hQ (Or.inr rfl))
      · have h := (if_pos hc11).symm.trans h
        refine ok_iconst (v := 0) dX5_readPair_46 (by decide) ?_
        cases h
        exact ok_iret dX5_readPair_47 (hQ (Or.inl rfl))
  · have h := (if_pos hc3).symm.trans h
    refine ok_iconst (v := 0) dX5_readPair_9 (by decide) ?_
    cases h
    exact ok_iret dX5_readPair_10 (hQ (Or.inl rfl))
theorem k5_readPair {g : pG} {Q : Option Value → pW → Prop} {Z : pZ} {I : (Nat → Nat → Int32)} {L : (Nat → Nat → Int64)} {O : (Nat → Nat → Option Nat)} {a0 : Nat} {x1 : Int32} {x2 : Int32} {x3 : Int32} {x4 : Int32} {x5 : Int32} {res : Int32 × (Nat → Nat → Int32)} (d : Nat) (hW : WT Z O) (hZ0 : Z[a0]? = some (5, 8)) (h : f5_readPair I O a0 x1 x2 x3 x4 x5 = some res) (hQ : Q (some (.int res.1)) (Z, res.2, L, O)) : CT g (d + 4) m5_readPair 0 0 [.ref a0, .int x1, .int x2, .int x3, .int x4, .int x5] (Z, I, L, O) Q :=
  ct_of_ok (mt := m5_readPair) (ini := false) mo5_readPair.2.2.2.2 (fun h => by cases h) (Nat.le_of_ble_eq_true rfl) (o5_readPair d hW hZ0 h (fun hb => ⟨hb, hQ, rfl, rfl⟩))
theorem dX5_readSundays_0 : decode cX5_readSundays 0 = .ok (.aload_n 0, 1) := by decide +kernel
theorem dX5_readSundays_1 : decode cX5_readSundays 1 = .ok (.iconst 1, 1) := by decide +kernel
theorem dX5_readSundays_2 : decode cX5_readSundays 2 = .ok (.bipush 60, 2) := by decide +kernel
theorem dX5_readSundays_4 : decode cX5_readSundays 4 = .ok (.invokevirtual 100, 3) := by decide +kernel
theorem dX5_readSundays_7 : decode cX5_readSundays 7 = .ok (.ifCond .ne 5, 3) := by decide +kernel
theorem dX5_readSundays_10 : decode cX5_readSundays 10 = .ok (.iconst 0, 1) := by decide +kernel
theorem dX5_readSundays_11 : decode cX5_readSundays 11 = .ok (.ireturn, 1) := by decide +kernel
theorem dX5_readSundays_12 : decode cX5_readSundays 12 = .ok (.aload_n 0, 1) := by decide +kernel
theorem dX5_readSundays_13 : decode cX5_readSundays 13 = .ok (.getfield 12, 3) := by decide +kernel
theorem dX5_readSundays_16 : decode cX5_readSundays 16 = .ok (.bipush 8, 2) := by decide +kernel
theorem dX5_readSundays_18 : decode cX5_readSundays 18 = .ok (.aload_n 0, 1) := by decide +kernel
theorem dX5_readSundays_19 : decode cX5_readSundays 19 = .ok (.getfield 62, 3) := by decide +kernel
theorem dX5_readSundays_22 : decode cX5_readSundays 22 = .ok (.iconst 0, 1) := by decide +kernel
theorem dX5_readSundays_23 : decode cX5_readSundays 23 = .ok (.invokevirtual 77, 3) := by decide +kernel
theorem dX5_readSundays_26 : decode cX5_readSundays 26 = .ok (.aload_n 0, 1) := by decide +kernel
theorem dX5_readSundays_27 : decode cX5_readSundays 27 = .ok (.aload_n 0, 1) := by decide +kernel
theorem dX5_readSundays_28 : decode cX5_readSundays 28 = .ok (.getfield 47, 3) := by decide +kernel
theorem dX5_readSundays_31 : decode cX5_readSundays 31 = .ok (.iconst 1, 1) := by decide +kernel
theorem dX5_readSundays_32 : decode cX5_readSundays 32 = .ok (.iadd, 1) := by decide +kernel
theorem dX5_readSundays_33 : decode cX5_readSundays 33 = .ok (.invokevirtual 32, 3) := by decide +kernel
theorem dX5_readSundays_36 : decode cX5_readSundays 36 = .ok (.iconst 1, 1) := by decide +kernel
theorem dX5_readSundays_37 : decode cX5_readSundays 37 = .ok (.ireturn, 1) := by decide +kernel
def m5_readSundays : pMT := (yX5_readSundays, cX5_readSundays, 1, some .boolean)
theorem mo5_readSundays : mOK m5_readSundays 0 := ⟨tb_i 592 (by decide +kernel), wi_RX5, ⟨wn_RX5.1, wn_RX5.2, by decide +kernel⟩, by decide, plainFor_of_name wp_RX5⟩
theorem mv5_readSundays : mV m5_readSundays := ⟨tb_i 591 (by decide +kernel), tb_p 14 (by decide +kernel)⟩
def f5_readSundays (I : (Nat → Nat → Int32)) (O : (Nat → Nat → Option Nat)) (a0 : Nat) : Option (Int32 × (Nat → Nat → Int32)) := (f5_isNumber I O a0 (1 : Int32) (60 : Int32)).bind fun r1 => (if r1.1 = 0 then some ((0 : Int32), r1.2) else (f7_addClause r1.2 O (rO O a0 1) (8 : Int32) (r1.2 a0 4) (0 : Int32)).bind fun r5 => (f5_comeTo r5 O a0 ((r5 a0 2) + 1)).bind fun r7 => some ((1 : Int32), r7))
set_option maxHeartbeats 4000000 in
set_option maxRecDepth 20000 in
theorem o5_readSundays {g : pG} {Qx : Option Value → pW → Prop} {Z : pZ} {I : (Nat → Nat → Int32)} {L : (Nat → Nat → Int64)} {O : (Nat → Nat → Option Nat)} {a0 : Nat} {res : Int32 × (Nat → Nat → Int32)} (d : Nat) (hW : WT Z O) (hZ0 : Z[a0]? = some (5, 8)) (h : f5_readSundays I O a0 = some res) (hQ : (res.1 = 0 ∨ res.1 = 1) → Qx (some (.int res.1)) (Z, res.2, L, O)) : Ok g (d + 4, RX5, cX5_readSundays, 1, false, 0, 0, Z.length, pSl Z) Qx 0 [(0, .ref a0)] [] (Z, I, L, O) := by
  unfold f5_readSundays at h
  refine ok_aload_n dX5_readSundays_0 0 rfl ?_
  refine ok_iconst (v := 1) dX5_readSundays_1 (by decide) ?_
  refine ok_bipush (v := 60) dX5_readSundays_2 (by decide) ?_
  obtain ⟨r1, hr2, h⟩ := bd h
  refine ok_callV (d := ((d + 0) + 3)) (mt := m5_isNumber) (mc := 0) (ms := 0) (As := [.int 1, .int 60]) (r := []) dX5_readSundays_4 mo5_isNumber mv5_isNumber lkRX5_100 rfl hZ0 (q := (RX5, TX5, 8)) rfl rfl rfl (Nat.le_of_ble_eq_true rfl) (by show _ + 1 ≤ d + _; omega) (Nat.le_refl _) (Nat.le_refl _) (pRt_mono ?_)
  refine k5_isNumber (d + 0) hW hZ0 hr2 ?_
  intro hbr1
  show Ok g _ Qx 7 [(0, .ref a0)] [.int r1.1] (Z, r1.2, L, O)
  refine ok_if_ne (t := 12) dX5_readSundays_7 (by decide) (fun hc3 => ?_) (fun hc3 => ?_)
  · have h := (if_neg hc3).symm.trans h
    refine ok_aload_n dX5_readSundays_12 0 rfl ?_
    have hT4 : Z[(rO O a0 1)]? = some (7, 7) := (wt_f (ci := 5) (k := 1) hW hZ0 rfl).2
    refine ok_getR (ci := 5) (k := 1) dX5_readSundays_13 flRX5_12 rfl hW hZ0 (by decide) ?_
    refine ok_bipush (v := 8) dX5_readSundays_16 (by decide) ?_
    refine ok_aload_n dX5_readSundays_18 0 rfl ?_
    refine ok_getI (ci := 5) (k := 4) dX5_readSundays_19 flRX5_62 rfl hZ0 (by decide) ?_
    refine ok_iconst (v := 0) dX5_readSundays_22 (by decide) ?_
    obtain ⟨r5, hr6, h⟩ := bd h
    refine ok_callV (d := ((d + 1) + 2)) (mt := m7_addClause) (mc := 0) (ms := 0) (As := [.int 8, .int (r1.2 a0 4), .int 0]) (r := []) dX5_readSundays_23 mo7_addClause mv7_addClause lkRX5_77 rfl hT4 (q := (RX7, TX7, 7)) rfl rfl rfl (Nat.le_of_ble_eq_true rfl) (by show _ + 1 ≤ d + _; omega) (Nat.le_refl _) (Nat.le_refl _) (pRt_mono ?_)
    refine k7_addClause (d + 1) hW hT4 hr6 ?_
    intro _
    show Ok g _ Qx 26 [(0, .ref a0)] [] (Z, r5, L, O)
    refine ok_aload_n dX5_readSundays_26 0 rfl ?_
    refine ok_aload_n dX5_readSundays_27 0 rfl ?_
    refine ok_getI (ci := 5) (k := 2) dX5_readSundays_28 flRX5_47 rfl hZ0 (by decide) ?_
    refine ok_iconst (v := 1) dX5_readSundays_31 (by decide) ?_
    refine ok_iadd dX5_readSundays_32 ?_
    obtain ⟨r7, hr8, h⟩ := bd h
    refine ok_callV (d := ((d + 1) + 2)) (mt := m5_comeTo) (mc := 0) (ms := 0) (As := [.int ((r5 a0 2) + 1)]) (r := []) dX5_readSundays_33 mo5_comeTo mv5_comeTo lkRX5_32 rfl hZ0 (q := (RX5, TX5, 8)) rfl rfl rfl (Nat.le_of_ble_eq_true rfl) (by show _ + 1 ≤ d + _; omega) (Nat.le_refl _) (Nat.le_refl _) (pRt_mono ?_)
    refine k5_comeTo (d + 1) hW hZ0 hr8 ?_
    intro _
    show Ok g _ Qx 36 [(0, .ref a0)] [] (Z, r7, L, O)
    refine ok_iconst (v := 1) dX5_readSundays_36 (by decide) ?_
    cases h
    exact ok_iret dX5_readSundays_37 (hQ (Or.inr rfl))
  · have h := (if_pos hc3).symm.trans h
    refine ok_iconst (v := 0) dX5_readSundays_10 (by decide) ?_
    cases h
    exact ok_iret dX5_readSundays_11 (hQ (Or.inl rfl))
theorem k5_readSundays {g : pG} {Q : Option Value → pW → Prop} {Z : pZ} {I : (Nat → Nat → Int32)} {L : (Nat → Nat → Int64)} {O : (Nat → Nat → Option Nat)} {a0 : Nat} {res : Int32 × (Nat → Nat → Int32)} (d : Nat) (hW : WT Z O) (hZ0 : Z[a0]? = some (5, 8)) (h : f5_readSundays I O a0 = some res) (hQ : Q (some (.int res.1)) (Z, res.2, L, O)) : CT g (d + 4) m5_readSundays 0 0 [.ref a0] (Z, I, L, O) Q :=
  ct_of_ok (mt := m5_readSundays) (ini := false) mo5_readSundays.2.2.2.2 (fun h => by cases h) (Nat.le_of_ble_eq_true rfl) (o5_readSundays d hW hZ0 h (fun hb => ⟨hb, hQ, rfl, rfl⟩))
theorem dX5_readKeys_0 : decode cX5_readKeys 0 = .ok (.aload_n 0, 1) := by decide +kernel
theorem dX5_readKeys_1 : decode cX5_readKeys 1 = .ok (.getfield 12, 3) := by decide +kernel
theorem dX5_readKeys_4 : decode cX5_readKeys 4 = .ok (.getfield 104, 3) := by decide +kernel
theorem dX5_readKeys_7 : decode cX5_readKeys 7 = .ok (.istore_n 1, 1) := by decide +kernel
theorem dX5_readKeys_8 : decode cX5_readKeys 8 = .ok (.iconst 1, 1) := by decide +kernel
theorem dX5_readKeys_9 : decode cX5_readKeys 9 = .ok (.istore_n 2, 1) := by decide +kernel
theorem dX5_readKeys_10 : decode cX5_readKeys 10 = .ok (.iconst 0, 1) := by decide +kernel
theorem dX5_readKeys_11 : decode cX5_readKeys 11 = .ok (.istore_n 3, 1) := by decide +kernel
theorem dX5_readKeys_12 : decode cX5_readKeys 12 = .ok (.iload_n 3, 1) := by decide +kernel
theorem dX5_readKeys_13 : decode cX5_readKeys 13 = .ok (.bipush 16, 2) := by decide +kernel
theorem dX5_readKeys_15 : decode cX5_readKeys 15 = .ok (.if_icmp .gt 88, 3) := by decide +kernel
theorem dX5_readKeys_18 : decode cX5_readKeys 18 = .ok (.iload_n 2, 1) := by decide +kernel
theorem dX5_readKeys_19 : decode cX5_readKeys 19 = .ok (.ifCond .eq 84, 3) := by decide +kernel
theorem dX5_readKeys_22 : decode cX5_readKeys 22 = .ok (.aload_n 0, 1) := by decide +kernel
theorem dX5_readKeys_23 : decode cX5_readKeys 23 = .ok (.iconst 0, 1) := by decide +kernel
theorem dX5_readKeys_24 : decode cX5_readKeys 24 = .ok (.iconst 5, 1) := by decide +kernel
theorem dX5_readKeys_25 : decode cX5_readKeys 25 = .ok (.invokevirtual 100, 3) := by decide +kernel
theorem dX5_readKeys_28 : decode cX5_readKeys 28 = .ok (.ifCond .ne 5, 3) := by decide +kernel
theorem dX5_readKeys_31 : decode cX5_readKeys 31 = .ok (.iconst 0, 1) := by decide +kernel
theorem dX5_readKeys_32 : decode cX5_readKeys 32 = .ok (.ireturn, 1) := by decide +kernel
theorem dX5_readKeys_33 : decode cX5_readKeys 33 = .ok (.iload_n 3, 1) := by decide +kernel
theorem dX5_readKeys_34 : decode cX5_readKeys 34 = .ok (.bipush 16, 2) := by decide +kernel
theorem dX5_readKeys_36 : decode cX5_readKeys 36 = .ok (.if_icmp .ne 10, 3) := by decide +kernel
theorem dX5_readKeys_39 : decode cX5_readKeys 39 = .ok (.aload_n 0, 1) := by decide +kernel
theorem dX5_readKeys_40 : decode cX5_readKeys 40 = .ok (.bipush 7, 2) := by decide +kernel
theorem dX5_readKeys_42 : decode cX5_readKeys 42 = .ok (.invokevirtual 71, 3) := by decide +kernel
theorem dX5_readKeys_45 : decode cX5_readKeys 45 = .ok (.ireturn, 1) := by decide +kernel
theorem dX5_readKeys_46 : decode cX5_readKeys 46 = .ok (.aload_n 0, 1) := by decide +kernel
theorem dX5_readKeys_47 : decode cX5_readKeys 47 = .ok (.getfield 12, 3) := by decide +kernel
theorem dX5_readKeys_50 : decode cX5_readKeys 50 = .ok (.aload_n 0, 1) := by decide +kernel
theorem dX5_readKeys_51 : decode cX5_readKeys 51 = .ok (.getfield 62, 3) := by decide +kernel
theorem dX5_readKeys_54 : decode cX5_readKeys 54 = .ok (.invokevirtual 105, 3) := by decide +kernel
theorem dX5_readKeys_57 : decode cX5_readKeys 57 = .ok (.pop, 1) := by decide +kernel
theorem dX5_readKeys_58 : decode cX5_readKeys 58 = .ok (.aload_n 0, 1) := by decide +kernel
theorem dX5_readKeys_59 : decode cX5_readKeys 59 = .ok (.aload_n 0, 1) := by decide +kernel
theorem dX5_readKeys_60 : decode cX5_readKeys 60 = .ok (.getfield 47, 3) := by decide +kernel
theorem dX5_readKeys_63 : decode cX5_readKeys 63 = .ok (.iconst 1, 1) := by decide +kernel
theorem dX5_readKeys_64 : decode cX5_readKeys 64 = .ok (.iadd, 1) := by decide +kernel
theorem dX5_readKeys_65 : decode cX5_readKeys 65 = .ok (.invokevirtual 32, 3) := by decide +kernel
theorem dX5_readKeys_68 : decode cX5_readKeys 68 = .ok (.aload_n 0, 1) := by decide +kernel
theorem dX5_readKeys_69 : decode cX5_readKeys 69 = .ok (.getfield 36, 3) := by decide +kernel
theorem dX5_readKeys_72 : decode cX5_readKeys 72 = .ok (.bipush 44, 2) := by decide +kernel
theorem dX5_readKeys_74 : decode cX5_readKeys 74 = .ok (.if_icmp .ne 7, 3) := by decide +kernel
theorem dX5_readKeys_77 : decode cX5_readKeys 77 = .ok (.iconst 1, 1) := by decide +kernel
theorem dX5_readKeys_78 : decode cX5_readKeys 78 = .ok (.goto 4, 3) := by decide +kernel
theorem dX5_readKeys_81 : decode cX5_readKeys 81 = .ok (.iconst 0, 1) := by decide +kernel
theorem dX5_readKeys_82 : decode cX5_readKeys 82 = .ok (.istore_n 2, 1) := by decide +kernel
theorem dX5_readKeys_83 : decode cX5_readKeys 83 = .ok (.iload_n 2, 1) := by decide +kernel
theorem dX5_readKeys_84 : decode cX5_readKeys 84 = .ok (.ifCond .eq 13, 3) := by decide +kernel
theorem dX5_readKeys_87 : decode cX5_readKeys 87 = .ok (.aload_n 0, 1) := by decide +kernel
theorem dX5_readKeys_88 : decode cX5_readKeys 88 = .ok (.aload_n 0, 1) := by decide +kernel
theorem dX5_readKeys_89 : decode cX5_readKeys 89 = .ok (.getfield 47, 3) := by decide +kernel
theorem dX5_readKeys_92 : decode cX5_readKeys 92 = .ok (.iconst 1, 1) := by decide +kernel
theorem dX5_readKeys_93 : decode cX5_readKeys 93 = .ok (.iadd, 1) := by decide +kernel
theorem dX5_readKeys_94 : decode cX5_readKeys 94 = .ok (.invokevirtual 32, 3) := by decide +kernel
theorem dX5_readKeys_97 : decode cX5_readKeys 97 = .ok (.iinc 3 1, 3) := by decide +kernel
theorem dX5_readKeys_100 : decode cX5_readKeys 100 = .ok (.goto (-88), 3) := by decide +kernel
theorem dX5_readKeys_103 : decode cX5_readKeys 103 = .ok (.aload_n 0, 1) := by decide +kernel
theorem dX5_readKeys_104 : decode cX5_readKeys 104 = .ok (.getfield 12, 3) := by decide +kernel
theorem dX5_readKeys_107 : decode cX5_readKeys 107 = .ok (.bipush 7, 2) := by decide +kernel
theorem dX5_readKeys_109 : decode cX5_readKeys 109 = .ok (.iload_n 1, 1) := by decide +kernel
theorem dX5_readKeys_110 : decode cX5_readKeys 110 = .ok (.aload_n 0, 1) := by decide +kernel
theorem dX5_readKeys_111 : decode cX5_readKeys 111 = .ok (.getfield 12, 3) := by decide +kernel
theorem dX5_readKeys_114 : decode cX5_readKeys 114 = .ok (.getfield 104, 3) := by decide +kernel
theorem dX5_readKeys_117 : decode cX5_readKeys 117 = .ok (.iload_n 1, 1) := by decide +kernel
theorem dX5_readKeys_118 : decode cX5_readKeys 118 = .ok (.isub, 1) := by decide +kernel
theorem dX5_readKeys_119 : decode cX5_readKeys 119 = .ok (.invokevirtual 77, 3) := by decide +kernel
theorem dX5_readKeys_122 : decode cX5_readKeys 122 = .ok (.iconst 1, 1) := by decide +kernel
theorem dX5_readKeys_123 : decode cX5_readKeys 123 = .ok (.ireturn, 1) := by decide +kernel
def m5_readKeys : pMT := (yX5_readKeys, cX5_readKeys, 4, some .boolean)
theorem mo5_readKeys : mOK m5_readKeys 0 := ⟨tb_i 572 (by decide +kernel), wi_RX5, ⟨wn_RX5.1, wn_RX5.2, by decide +kernel⟩, by decide, plainFor_of_name wp_RX5⟩
theorem mv5_readKeys : mV m5_readKeys := ⟨tb_i 571 (by decide +kernel), tb_p 10 (by decide +kernel)⟩
def f5_readKeys_c103 (n : Nat) (O : (Nat → Nat → Option Nat)) (I : (Nat → Nat → Int32)) (b0 : Nat) (y1 : Int32) : Option (Int32 × (Nat → Nat → Int32)) := (f7_addClause I O (rO O b0 1) (7 : Int32) y1 ((I (rO O b0 1) 5) - y1)).bind fun r2 => some ((1 : Int32), r2)
set_option maxHeartbeats 4000000 in
set_option maxRecDepth 20000 in
theorem o5_readKeys_c103 {g : pG} {Qx : Option Value → pW → Prop} {Z : pZ} {L : (Nat → Nat → Int64)} {O : (Nat → Nat → Option Nat)} {n : Nat} {res : Int32 × (Nat → Nat → Int32)} (d : Nat) (hW : WT Z O) (hQ : (res.1 = 0 ∨ res.1 = 1) → Qx (some (.int res.1)) (Z, res.2, L, O)) (I : (Nat → Nat → Int32)) (b0 : Nat) (y1 : Int32) (hZ_b0 : Z[b0]? = some (5, 8)) (h : f5_readKeys_c103 n O I b0 y1 = some res) : Ok g (d + 4, RX5, cX5_readKeys, 4, false, 0, 0, Z.length, pSl Z) Qx 103 [(0, .ref b0), (1, .int y1)] [] (Z, I, L, O) := by
  unfold f5_readKeys_c103 at h
  refine ok_aload_n dX5_readKeys_103 0 rfl ?_
  have hT1 : Z[(rO O b0 1)]? = some (7, 7) := (wt_f (ci := 5) (k := 1) hW hZ_b0 rfl).2
  refine ok_getR (ci := 5) (k := 1) dX5_readKeys_104 flRX5_12 rfl hW hZ_b0 (by decide) ?_
  refine ok_bipush (v := 7) dX5_readKeys_107 (by decide) ?_
  refine ok_iload_n dX5_readKeys_109 1 rfl ?_
  refine ok_aload_n dX5_readKeys_110 0 rfl ?_
  refine ok_getR (ci := 5) (k := 1) dX5_readKeys_111 flRX5_12 rfl hW hZ_b0 (by decide) ?_
  refine ok_getI (ci := 7) (k := 5) dX5_readKeys_114 flRX5_104 rfl hT1 (by decide) ?_
  refine ok_iload_n dX5_readKeys_117 1 rfl ?_
  refine ok_isub dX5_readKeys_118 ?_
  obtain ⟨r2, hr3, h⟩ := bd h
  refine ok_callV (d := ((d + 1) + 2)) (mt := m7_addClause) (mc := 0) (ms := 0) (As := [.int 7, .int y1, .int ((I (rO O b0 1) 5) - y1)]) (r := []) dX5_readKeys_119 mo7_addClause mv7_addClause lkRX5_77 rfl hT1 (q := (RX7, TX7, 7)) rfl rfl rfl (Nat.le_of_ble_eq_true rfl) (by show _ + 1 ≤ d + _; omega) (Nat.le_refl _) (Nat.le_refl _) (pRt_mono ?_)
  refine k7_addClause (d + 1) hW hT1 hr3 ?_
  intro _
  show Ok g _ Qx 122 [(0, .ref b0), (1, .int y1)] [] (Z, r2, L, O)
  refine ok_iconst (v := 1) dX5_readKeys_122 (by decide) ?_
  cases h
  exact ok_iret dX5_readKeys_123 (hQ (Or.inr rfl))
def f5_readKeys_c82 (n : Nat) (O : (Nat → Nat → Option Nat)) (k12 : ((Nat → Nat → Int32) → Nat → Int32 → Int32 → Int32 → Option (Int32 × (Nat → Nat → Int32)))) (I : (Nat → Nat → Int32)) (b0 : Nat) (y1 : Int32) (y3 : Int32) (t0 : Int32) : Option (Int32 × (Nat → Nat → Int32)) := (if t0 = 0 then k12 I b0 y1 t0 (y3 + 1) else (f5_comeTo I O b0 ((I b0 2) + 1)).bind fun r2 => k12 r2 b0 y1 t0 (y3 + 1))
set_option maxHeartbeats 4000000 in
set_option maxRecDepth 20000 in
theorem o5_readKeys_c82 {g : pG} {Qx : Option Value → pW → Prop} {Z : pZ} {L : (Nat → Nat → Int64)} {O : (Nat → Nat → Option Nat)} {n : Nat} {k12 : ((Nat → Nat → Int32) → Nat → Int32 → Int32 → Int32 → Option (Int32 × (Nat → Nat → Int32)))} {res : Int32 × (Nat → Nat → Int32)} (d : Nat) (hW : WT Z O) (hQ : (res.1 = 0 ∨ res.1 = 1) → Qx (some (.int res.1)) (Z, res.2, L, O)) (hk12 : ∀ (I : (Nat → Nat → Int32)) (b0 : Nat) (y1 : Int32) (y2 : Int32) (y3 : Int32), (Z[b0]? = some (5, 8)) → (y2 = 0 ∨ y2 = 1) → k12 I b0 y1 y2 y3 = some res → Ok g (d + 4, RX5, cX5_readKeys, 4, false, 0, 0, Z.length, pSl Z) Qx 12 [(0, .ref b0), (1, .int y1), (2, .int y2), (3, .int y3)] [] (Z, I, L, O)) (I : (Nat → Nat → Int32)) (b0 : Nat) (y1 : Int32) (y3 : Int32) (t0 : Int32) (hZ_b0 : Z[b0]? = some (5, 8)) (hz_t0 : t0 = 0 ∨ t0 = 1) (h : f5_readKeys_c82 n O k12 I b0 y1 y3 t0 = some res) : Ok g (d + 4, RX5, cX5_readKeys, 4, false, 0, 0, Z.length, pSl Z) Qx 82 [(0, .ref b0), (1, .int y1), (3, .int y3)] [.int t0] (Z, I, L, O) := by
  unfold f5_readKeys_c82 at h
  refine ok_istore_n (l' := [(2, .int t0), (0, .ref b0), (1, .int y1), (3, .int y3)]) dX5_readKeys_82 rfl (Nat.le_of_ble_eq_true rfl) rfl ?_
  refine ok_iload_n dX5_readKeys_83 0 rfl ?_
  refine ok_if_eq (t := 97) dX5_readKeys_84 (by decide) (fun hc1 => ?_) (fun hc1 => ?_)
  · have h := (if_pos hc1).symm.trans h
    refine ok_iinc (u := (y3 + 1)) (l' := [(3, .int (y3 + 1)), (2, .int t0), (0, .ref b0), (1, .int y1)]) dX5_readKeys_97 3 rfl rfl (Nat.le_of_ble_eq_true rfl) rfl ?_
    refine ok_goto (t := 12) dX5_readKeys_100 (by decide) ?_
    refine ok_sub [2, 3, 1, 0] rfl ?_
    exact hk12 I b0 y1 t0 (y3 + 1) hZ_b0 hz_t0 h
  · have h := (if_neg hc1).symm.trans h
    refine ok_aload_n dX5_readKeys_87 1 rfl ?_
    refine ok_aload_n dX5_readKeys_88 1 rfl ?_
    refine ok_getI (ci := 5) (k := 2) dX5_readKeys_89 flRX5_47 rfl hZ_b0 (by decide) ?_
    refine ok_iconst (v := 1) dX5_readKeys_92 (by decide) ?_
    refine ok_iadd dX5_readKeys_93 ?_
    obtain ⟨r2, hr3, h⟩ := bd h
    refine ok_callV (d := ((d + 1) + 2)) (mt := m5_comeTo) (mc := 0) (ms := 0) (As := [.int ((I b0 2) + 1)]) (r := []) dX5_readKeys_94 mo5_comeTo mv5_comeTo lkRX5_32 rfl hZ_b0 (q := (RX5, TX5, 8)) rfl rfl rfl (Nat.le_of_ble_eq_true rfl) (by show _ + 1 ≤ d + _; omega) (Nat.le_refl _) (Nat.le_refl _) (pRt_mono ?_)
    refine k5_comeTo (d + 1) hW hZ_b0 hr3 ?_
    intro _
    show Ok g _ Qx 97 [(2, .int t0), (0, .ref b0), (1, .int y1), (3, .int y3)] [] (Z, r2, L, O)
    refine ok_iinc (u := (y3 + 1)) (l' := [(3, .int (y3 + 1)), (2, .int t0), (0, .ref b0), (1, .int y1)]) dX5_readKeys_97 3 rfl rfl (Nat.le_of_ble_eq_true rfl) rfl ?_
    refine ok_goto (t := 12) dX5_readKeys_100 (by decide) ?_
    refine ok_sub [2, 3, 1, 0] rfl ?_
    exact hk12 r2 b0 y1 t0 (y3 + 1) hZ_b0 hz_t0 h
def f5_readKeys_c12 (n : Nat) (O : (Nat → Nat → Option Nat)) : Nat → (Nat → Nat → Int32) → Nat → Int32 → Int32 → Int32 → Option (Int32 × (Nat → Nat → Int32))
  | 0, _, _, _, _, _ => none
  | m + 1, I, b0, y1, y2, y3 => (if (16 : Int32) < y3 then f5_readKeys_c103 n O I b0 y1 else (if y2 = 0 then f5_readKeys_c103 n O I b0 y1 else (f5_isNumber I O b0 (0 : Int32) (5 : Int32)).bind fun r3 => (if r3.1 = 0 then some ((0 : Int32), r3.2) else (if y3 = (16 : Int32) then (f5_refuse r3.2 O b0 (7 : Int32)).bind fun r13 => some (r13.1, r13.2) else (f7_add r3.2 O (rO O b0 1) (r3.2 b0 4)).bind fun r8 => (f5_comeTo r8.2 O b0 ((r8.2 b0 2) + 1)).bind fun r10 => (if (r10 b0 3) = (44 : Int32) then f5_readKeys_c82 n O (f5_readKeys_c12 n O m) r10 b0 y1 y3 (1 : Int32) else f5_readKeys_c82 n O (f5_readKeys_c12 n O m) r10 b0 y1 y3 (0 : Int32))))))
set_option maxHeartbeats 4000000 in
set_option maxRecDepth 20000 in
theorem o5_readKeys_c12 {g : pG} {Qx : Option Value → pW → Prop} {Z : pZ} {L : (Nat → Nat → Int64)} {O : (Nat → Nat → Option Nat)} {n : Nat} {res : Int32 × (Nat → Nat → Int32)} (d : Nat) (hW : WT Z O) (hQ : (res.1 = 0 ∨ res.1 = 1) → Qx (some (.int res.1)) (Z, res.2, L, O)) : ∀ (m : Nat) (I : (Nat → Nat → Int32)) (b0 : Nat) (y1 : Int32) (y2 : Int32) (y3 : Int32), (Z[b0]? = some (5, 8)) → (y2 = 0 ∨ y2 = 1) → f5_readKeys_c12 n O m I b0 y1 y2 y3 = some res → Ok g (d + 4, RX5, cX5_readKeys, 4, false, 0, 0, Z.length, pSl Z) Qx 12 [(0, .ref b0), (1, .int y1), (2, .int y2), (3, .int y3)] [] (Z, I, L, O) := by
  intro m
  induction m with
  | zero => intro I b0 y1 y2 y3 hZ_b0 hz_y2 h; rw [f5_readKeys_c12] at h; cases h
  | succ m ih =>
    intro I b0 y1 y2 y3 hZ_b0 hz_y2 h
    rw [f5_readKeys_c12] at h
    refine ok_iload_n dX5_readKeys_12 3 rfl ?_
    refine ok_bipush (v := 16) dX5_readKeys_13 (by decide) ?_
    refine ok_icmp_gt (t := 103) dX5_readKeys_15 (by decide) (fun hc1 => ?_) (fun hc1 => ?_)
    · have h := (if_pos hc1).symm.trans h
      refine ok_sub [0, 1] rfl ?_
      exact o5_readKeys_c103 d hW hQ  I b0 y1 hZ_b0 h
    · have h := (if_neg hc1).symm.trans h
      refine ok_iload_n dX5_readKeys_18 2 rfl ?_
      refine ok_if_eq (t := 103) dX5_readKeys_19 (by decide) (fun hc2 => ?_) (fun hc2 => ?_)
      · have h := (if_pos hc2).symm.trans h
        refine ok_sub [0, 1] rfl ?_
        exact o5_readKeys_c103 d hW hQ  I b0 y1 hZ_b0 h
      · have h := (if_neg hc2).symm.trans h
        refine ok_aload_n dX5_readKeys_22 0 rfl ?_
        refine ok_iconst (v := 0) dX5_readKeys_23 (by decide) ?_
        refine ok_iconst (v := 5) dX5_readKeys_24 (by decide) ?_
        obtain ⟨r3, hr4, h⟩ := bd h
        refine ok_callV (d := ((d + 0) + 3)) (mt := m5_isNumber) (mc := 0) (ms := 0) (As := [.int 0, .int 5]) (r := []) dX5_readKeys_25 mo5_isNumber mv5_isNumber lkRX5_100 rfl hZ_b0 (q := (RX5, TX5, 8)) rfl rfl rfl (Nat.le_of_ble_eq_true rfl) (by show _ + 1 ≤ d + _; omega) (Nat.le_refl _) (Nat.le_refl _) (pRt_mono ?_)
        refine k5_isNumber (d + 0) hW hZ_b0 hr4 ?_
        intro hbr3
        show Ok g _ Qx 28 [(0, .ref b0), (1, .int y1), (2, .int y2), (3, .int y3)] [.int r3.1] (Z, r3.2, L, O)
        refine ok_if_ne (t := 33) dX5_readKeys_28 (by decide) (fun hc5 => ?_) (fun hc5 => ?_)
        · have h := (if_neg hc5).symm.trans h
          refine ok_iload_n dX5_readKeys_33 3 rfl ?_
          refine ok_bipush (v := 16) dX5_readKeys_34 (by decide) ?_
          refine ok_icmp_ne (t := 46) dX5_readKeys_36 (by decide) (fun hc6 => ?_) (fun hc6 => ?_)
          · have h := (if_neg hc6).symm.trans h
            refine ok_aload_n dX5_readKeys_46 0 rfl ?_
            have hT7 : Z[(rO O b0 1)]? = some (7, 7) := (wt_f (ci := 5) (k := 1) hW hZ_b0 rfl).2
            refine ok_getR (ci := 5) (k := 1) dX5_readKeys_47 flRX5_12 rfl hW hZ_b0 (by decide) ?_
            refine ok_aload_n dX5_readKeys_50 0 rfl ?_
            refine ok_getI (ci := 5) (k := 4) dX5_readKeys_51 flRX5_62 rfl hZ_b0 (by decide) ?_
            obtain ⟨r8, hr9, h⟩ := bd h
            refine ok_callV (d := ((d + 1) + 2)) (mt := m7_add) (mc := 0) (ms := 0) (As := [.int (r3.2 b0 4)]) (r := []) dX5_readKeys_54 mo7_add mv7_add lkRX5_105 rfl hT7 (q := (RX7, TX7, 7)) rfl rfl rfl (Nat.le_of_ble_eq_true rfl) (by show _ + 1 ≤ d + _; omega) (Nat.le_refl _) (Nat.le_refl _) (pRt_mono ?_)
            refine k7_add (d + 1) hW hT7 hr9 ?_
            intro _
            show Ok g _ Qx 57 [(0, .ref b0), (1, .int y1), (2, .int y2), (3, .int y3)] [.int r8.1] (Z, r8.2, L, O)
            refine ok_pop dX5_readKeys_57 rfl ?_
            refine ok_aload_n dX5_readKeys_58 0 rfl ?_
            refine ok_aload_n dX5_readKeys_59 0 rfl ?_
            refine ok_getI (ci := 5) (k := 2) dX5_readKeys_60 flRX5_47 rfl hZ_b0 (by decide) ?_
            refine ok_iconst (v := 1) dX5_readKeys_63 (by decide) ?_
            refine ok_iadd dX5_readKeys_64 ?_
            obtain ⟨r10, hr11, h⟩ := bd h
            refine ok_callV (d := ((d + 1) + 2)) (mt := m5_comeTo) (mc := 0) (ms := 0) (As := [.int ((r8.2 b0 2) + 1)]) (r := []) dX5_readKeys_65 mo5_comeTo mv5_comeTo lkRX5_32 rfl hZ_b0 (q := (RX5, TX5, 8)) rfl rfl rfl (Nat.le_of_ble_eq_true rfl) (by show _ + 1 ≤ d + _; omega) (Nat.le_refl _) (Nat.le_refl _) (pRt_mono ?_)
            refine k5_comeTo (d + 1) hW hZ_b0 hr11 ?_
            intro _
            show Ok g _ Qx 68 [(0, .ref b0), (1, .int y1), (2, .int y2), (3, .int y3)] [] (Z, r10, L, O)
            refine ok_aload_n dX5_readKeys_68 0 rfl ?_
            refine ok_getI (ci := 5) (k := 3) dX5_readKeys_69 flRX5_36 rfl hZ_b0 (by decide) ?_
            refine ok_bipush (v := 44) dX5_readKeys_72 (by decide) ?_
            refine ok_icmp_ne (t := 81) dX5_readKeys_74 (by decide) (fun hc12 => ?_) (fun hc12 => ?_)
            · have h := (if_neg hc12).symm.trans h
              refine ok_iconst (v := 0) dX5_readKeys_81 (by decide) ?_
              refine ok_sub [0, 1, 3] rfl ?_
              exact o5_readKeys_c82 d hW hQ ih r10 b0 y1 y3 (0 : Int32) hZ_b0 (Or.inl rfl) h
            · have h := (if_pos hc12).symm.trans h
              refine ok_iconst (v := 1) dX5_readKeys_77 (by decide) ?_
              refine ok_goto (t := 82) dX5_readKeys_78 (by decide) ?_
              refine ok_sub [0, 1, 3] rfl ?_
              exact o5_readKeys_c82 d hW hQ ih r10 b0 y1 y3 (1 : Int32) hZ_b0 (Or.inr rfl) h
          · have h := (if_pos hc6).symm.trans h
            refine ok_aload_n dX5_readKeys_39 0 rfl ?_
            refine ok_bipush (v := 7) dX5_readKeys_40 (by decide) ?_
            obtain ⟨r13, hr14, h⟩ := bd h
            refine ok_callV (d := ((d + 1) + 2)) (mt := m5_refuse) (mc := 0) (ms := 0) (As := [.int 7]) (r := []) dX5_readKeys_42 mo5_refuse mv5_refuse lkRX5_71 rfl hZ_b0 (q := (RX5, TX5, 8)) rfl rfl rfl (Nat.le_of_ble_eq_true rfl) (by show _ + 1 ≤ d + _; omega) (Nat.le_refl _) (Nat.le_refl _) (pRt_mono ?_)
            refine k5_refuse (d + 1) hW hZ_b0 hr14 ?_
            intro hbr13
            show Ok g _ Qx 45 [(0, .ref b0), (1, .int y1), (2, .int y2), (3, .int y3)] [.int r13.1] (Z, r13.2, L, O)
            cases h
            exact ok_iret dX5_readKeys_45 (hQ hbr13)
        · have h := (if_pos hc5).symm.trans h
          refine ok_iconst (v := 0) dX5_readKeys_31 (by decide) ?_
          cases h
          exact ok_iret dX5_readKeys_32 (hQ (Or.inl rfl))
def f5_readKeys (n : Nat) (I : (Nat → Nat → Int32)) (O : (Nat → Nat → Option Nat)) (a0 : Nat) : Option (Int32 × (Nat → Nat → Int32)) := f5_readKeys_c12 n O n I a0 (I (rO O a0 1) 5) (1 : Int32) (0 : Int32)
set_option maxHeartbeats 4000000 in
set_option maxRecDepth 20000 in
theorem o5_readKeys {g : pG} {Qx : Option Value → pW → Prop} {Z : pZ} {I : (Nat → Nat → Int32)} {L : (Nat → Nat → Int64)} {O : (Nat → Nat → Option Nat)} {n : Nat} {a0 : Nat} {res : Int32 × (Nat → Nat → Int32)} (d : Nat) (hW : WT Z O) (hZ0 : Z[a0]? = some (5, 8)) (h : f5_readKeys n I O a0 = some res) (hQ : (res.1 = 0 ∨ res.1 = 1) → Qx (some (.int res.1)) (Z, res.2, L, O)) : Ok g (d + 4, RX5, cX5_readKeys, 4, false, 0, 0, Z.length, pSl Z) Qx 0 [(0, .ref a0)] [] (Z, I, L, O) := by
  unfold f5_readKeys at h
  refine ok_aload_n dX5_readKeys_0 0 rfl ?_
  have hT1 : Z[(rO O a0 1)]? = some (7, 7) := (wt_f (ci := 5) (k := 1) hW hZ0 rfl).2
  refine ok_getR (ci := 5) (k := 1) dX5_readKeys_1 flRX5_12 rfl hW hZ0 (by decide) ?_
  refine ok_getI (ci := 7) (k := 5) dX5_readKeys_4 flRX5_104 rfl hT1 (by decide) ?_
  refine ok_istore_n (l' := [(1, .int (I (rO O a0 1) 5)), (0, .ref a0)]) dX5_readKeys_7 rfl (Nat.le_of_ble_eq_true rfl) rfl ?_
  refine ok_iconst (v := 1) dX5_readKeys_8 (by decide) ?_
  refine ok_istore_n (l' := [(2, .int 1), (1, .int (I (rO O a0 1) 5)), (0, .ref a0)]) dX5_readKeys_9 rfl (Nat.le_of_ble_eq_true rfl) rfl ?_
  refine ok_iconst (v := 0) dX5_readKeys_10 (by decide) ?_
  refine ok_istore_n (l' := [(3, .int 0), (2, .int 1), (1, .int (I (rO O a0 1) 5)), (0, .ref a0)]) dX5_readKeys_11 rfl (Nat.le_of_ble_eq_true rfl) rfl ?_
  refine ok_sub [3, 2, 1, 0] rfl ?_
  exact o5_readKeys_c12 d hW hQ  n I a0 (I (rO O a0 1) 5) (1 : Int32) (0 : Int32) hZ0 (Or.inr rfl) h
theorem k5_readKeys {g : pG} {Q : Option Value → pW → Prop} {Z : pZ} {I : (Nat → Nat → Int32)} {L : (Nat → Nat → Int64)} {O : (Nat → Nat → Option Nat)} {n : Nat} {a0 : Nat} {res : Int32 × (Nat → Nat → Int32)} (d : Nat) (hW : WT Z O) (hZ0 : Z[a0]? = some (5, 8)) (h : f5_readKeys n I O a0 = some res) (hQ : Q (some (.int res.1)) (Z, res.2, L, O)) : CT g (d + 4) m5_readKeys 0 0 [.ref a0] (Z, I, L, O) Q :=
  ct_of_ok (mt := m5_readKeys) (ini := false) mo5_readKeys.2.2.2.2 (fun h => by cases h) (Nat.le_of_ble_eq_true rfl) (o5_readKeys d hW hZ0 h (fun hb => ⟨hb, hQ, rfl, rfl⟩))
theorem dX5_readNumber_0 : decode cX5_readNumber 0 = .ok (.aload_n 0, 1) := by decide +kernel
theorem dX5_readNumber_1 : decode cX5_readNumber 1 = .ok (.getfield 62, 3) := by decide +kernel
theorem dX5_readNumber_4 : decode cX5_readNumber 4 = .ok (.sipush 9999, 3) := by decide +kernel
theorem dX5_readNumber_7 : decode cX5_readNumber 7 = .ok (.if_icmp .le 9, 3) := by decide +kernel
theorem dX5_readNumber_10 : decode cX5_readNumber 10 = .ok (.aload_n 0, 1) := by decide +kernel
theorem dX5_readNumber_11 : decode cX5_readNumber 11 = .ok (.iconst 2, 1) := by decide +kernel
theorem dX5_readNumber_12 : decode cX5_readNumber 12 = .ok (.invokevirtual 71, 3) := by decide +kernel
theorem dX5_readNumber_15 : decode cX5_readNumber 15 = .ok (.ireturn, 1) := by decide +kernel
theorem dX5_readNumber_16 : decode cX5_readNumber 16 = .ok (.aload_n 0, 1) := by decide +kernel
theorem dX5_readNumber_17 : decode cX5_readNumber 17 = .ok (.getfield 12, 3) := by decide +kernel
theorem dX5_readNumber_20 : decode cX5_readNumber 20 = .ok (.bipush 28, 2) := by decide +kernel
theorem dX5_readNumber_22 : decode cX5_readNumber 22 = .ok (.aload_n 0, 1) := by decide +kernel
theorem dX5_readNumber_23 : decode cX5_readNumber 23 = .ok (.getfield 62, 3) := by decide +kernel
theorem dX5_readNumber_26 : decode cX5_readNumber 26 = .ok (.sipush 1024, 3) := by decide +kernel
theorem dX5_readNumber_29 : decode cX5_readNumber 29 = .ok (.imul, 1) := by decide +kernel
theorem dX5_readNumber_30 : decode cX5_readNumber 30 = .ok (.iadd, 1) := by decide +kernel
theorem dX5_readNumber_31 : decode cX5_readNumber 31 = .ok (.invokevirtual 105, 3) := by decide +kernel
theorem dX5_readNumber_34 : decode cX5_readNumber 34 = .ok (.pop, 1) := by decide +kernel
theorem dX5_readNumber_35 : decode cX5_readNumber 35 = .ok (.aload_n 0, 1) := by decide +kernel
theorem dX5_readNumber_36 : decode cX5_readNumber 36 = .ok (.aload_n 0, 1) := by decide +kernel
theorem dX5_readNumber_37 : decode cX5_readNumber 37 = .ok (.getfield 47, 3) := by decide +kernel
theorem dX5_readNumber_40 : decode cX5_readNumber 40 = .ok (.iconst 1, 1) := by decide +kernel
theorem dX5_readNumber_41 : decode cX5_readNumber 41 = .ok (.iadd, 1) := by decide +kernel
theorem dX5_readNumber_42 : decode cX5_readNumber 42 = .ok (.invokevirtual 32, 3) := by decide +kernel
theorem dX5_readNumber_45 : decode cX5_readNumber 45 = .ok (.iconst 1, 1) := by decide +kernel
theorem dX5_readNumber_46 : decode cX5_readNumber 46 = .ok (.ireturn, 1) := by decide +kernel
def m5_readNumber : pMT := (yX5_readNumber, cX5_readNumber, 1, some .boolean)
theorem mo5_readNumber : mOK m5_readNumber 0 := ⟨tb_i 616 (by decide +kernel), wi_RX5, ⟨wn_RX5.1, wn_RX5.2, by decide +kernel⟩, by decide, plainFor_of_name wp_RX5⟩
theorem mv5_readNumber : mV m5_readNumber := ⟨tb_i 615 (by decide +kernel), tb_p 20 (by decide +kernel)⟩
def f5_readNumber (I : (Nat → Nat → Int32)) (O : (Nat → Nat → Option Nat)) (a0 : Nat) : Option (Int32 × (Nat → Nat → Int32)) := (if (I a0 4) ≤ (9999 : Int32) then (f7_add I O (rO O a0 1) ((28 : Int32) + ((I a0 4) * 1024))).bind fun r3 => (f5_comeTo r3.2 O a0 ((r3.2 a0 2) + 1)).bind fun r5 => some ((1 : Int32), r5) else (f5_refuse I O a0 (2 : Int32)).bind fun r7 => some (r7.1, r7.2))
set_option maxHeartbeats 4000000 in
set_option maxRecDepth 20000 in
theorem o5_readNumber {g : pG} {Qx : Option Value → pW → Prop} {Z : pZ} {I : (Nat → Nat → Int32)} {L : (Nat → Nat → Int64)} {O : (Nat → Nat → Option Nat)} {a0 : Nat} {res : Int32 × (Nat → Nat → Int32)} (d : Nat) (hW : WT Z O) (hZ0 : Z[a0]? = some (5, 8)) (h : f5_readNumber I O a0 = some res) (hQ : (res.1 = 0 ∨ res.1 = 1) → Qx (some (.int res.1)) (Z, res.2, L, O)) : Ok g (d + 3, RX5, cX5_readNumber, 1, false, 0, 0, Z.length, pSl Z) Qx 0 [(0, .ref a0)] [] (Z, I, L, O) := by
  unfold f5_readNumber at h
  refine ok_aload_n dX5_readNumber_0 0 rfl ?_
  refine ok_getI (ci := 5) (k := 4) dX5_readNumber_1 flRX5_62 rfl hZ0 (by decide) ?_
  refine ok_sipush (v := 9999) dX5_readNumber_4 (by decide) ?_
  refine ok_icmp_le (t := 16) dX5_readNumber_7 (by decide) (fun hc1 => ?_) (fun hc1 => ?_)
  · have h := (if_pos hc1).symm.trans h
    refine ok_aload_n dX5_readNumber_16 0 rfl ?_
    have hT2 : Z[(rO O a0 1)]? = some (7, 7) := (wt_f (ci := 5) (k := 1) hW hZ0 rfl).2
    refine ok_getR (ci := 5) (k := 1) dX5_readNumber_17 flRX5_12 rfl hW hZ0 (by decide) ?_
    refine ok_bipush (v := 28) dX5_readNumber_20 (by decide) ?_
    refine ok_aload_n dX5_readNumber_22 0 rfl ?_
    refine ok_getI (ci := 5) (k := 4) dX5_readNumber_23 flRX5_62 rfl hZ0 (by decide) ?_
    refine ok_sipush (v := 1024) dX5_readNumber_26 (by decide) ?_
    refine ok_imul dX5_readNumber_29 ?_
    refine ok_iadd dX5_readNumber_30 ?_
    obtain ⟨r3, hr4, h⟩ := bd h
    refine ok_callV (d := ((d + 0) + 2)) (mt := m7_add) (mc := 0) (ms := 0) (As := [.int ((28 : Int32) + ((I a0 4) * 1024))]) (r := []) dX5_readNumber_31 mo7_add mv7_add lkRX5_105 rfl hT2 (q := (RX7, TX7, 7)) rfl rfl rfl (Nat.le_of_ble_eq_true rfl) (by show _ + 1 ≤ d + _; omega) (Nat.le_refl _) (Nat.le_refl _) (pRt_mono ?_)
    refine k7_add (d + 0) hW hT2 hr4 ?_
    intro _
    show Ok g _ Qx 34 [(0, .ref a0)] [.int r3.1] (Z, r3.2, L, O)
    refine ok_pop dX5_readNumber_34 rfl ?_
    refine ok_aload_n dX5_readNumber_35 0 rfl ?_
    refine ok_aload_n dX5_readNumber_36 0 rfl ?_
    refine ok_getI (ci := 5) (k := 2) dX5_readNumber_37 flRX5_47 rfl hZ0 (by decide) ?_
    refine ok_iconst (v := 1) dX5_readNumber_40 (by decide) ?_
    refine ok_iadd dX5_readNumber_41 ?_
    obtain ⟨r5, hr6, h⟩ := bd h
    refine ok_callV (d := ((d + 0) + 2)) (mt := m5_comeTo) (mc := 0) (ms := 0) (As := [.int ((r3.2 a0 2) + 1)]) (r := []) dX5_readNumber_42 mo5_comeTo mv5_comeTo lkRX5_32 rfl hZ0 (q := (RX5, TX5, 8)) rfl rfl rfl (Nat.le_of_ble_eq_true rfl) (by show _ + 1 ≤ d + _; omega) (Nat.le_refl _) (Nat.le_refl _) (pRt_mono ?_)
    refine k5_comeTo (d + 0) hW hZ0 hr6 ?_
    intro _
    show Ok g _ Qx 45 [(0, .ref a0)] [] (Z, r5, L, O)
    refine ok_iconst (v := 1) dX5_readNumber_45 (by decide) ?_
    cases h
    exact ok_iret dX5_readNumber_46 (hQ (Or.inr rfl))
  · have h := (if_neg hc1).symm.trans h
    refine ok_aload_n dX5_readNumber_10 0 rfl ?_
    refine ok_iconst (v := 2) dX5_readNumber_11 (by decide) ?_
    obtain ⟨r7, hr8, h⟩ := bd h
    refine ok_callV (d := ((d + 0) + 2)) (mt := m5_refuse) (mc := 0) (ms := 0) (As := [.int 2]) (r := []) dX5_readNumber_12 mo5_refuse mv5_refuse lkRX5_71 rfl hZ0 (q := (RX5, TX5, 8)) rfl rfl rfl (Nat.le_of_ble_eq_true rfl) (by show _ + 1 ≤ d + _; omega) (Nat.le_refl _) (Nat.le_refl _) (pRt_mono ?_)
    refine k5_refuse (d + 0) hW hZ0 hr8 ?_
    intro hbr7
    show Ok g _ Qx 15 [(0, .ref a0)] [.int r7.1] (Z, r7.2, L, O)
    cases h
    exact ok_iret dX5_readNumber_15 (hQ hbr7)
theorem k5_readNumber {g : pG} {Q : Option Value → pW → Prop} {Z : pZ} {I : (Nat → Nat → Int32)} {L : (Nat → Nat → Int64)} {O : (Nat → Nat → Option Nat)} {a0 : Nat} {res : Int32 × (Nat → Nat → Int32)} (d : Nat) (hW : WT Z O) (hZ0 : Z[a0]? = some (5, 8)) (h : f5_readNumber I O a0 = some res) (hQ : Q (some (.int res.1)) (Z, res.2, L, O)) : CT g (d + 3) m5_readNumber 0 0 [.ref a0] (Z, I, L, O) Q :=
  ct_of_ok (mt := m5_readNumber) (ini := false) mo5_readNumber.2.2.2.2 (fun h => by cases h) (Nat.le_of_ble_eq_true rfl) (o5_readNumber d hW hZ0 h (fun hb => ⟨hb, hQ, rfl, rfl⟩))
theorem dX5_enter_0 : decode cX5_enter 0 = .ok (.iload_n 1, 1) := by decide +kernel
theorem dX5_enter_1 : decode cX5_enter 1 = .ok (.bipush 8, 2) := by decide +kernel
theorem dX5_enter_3 : decode cX5_enter 3 = .ok (.if_icmp .lt 9, 3) := by decide +kernel
theorem dX5_enter_6 : decode cX5_enter 6 = .ok (.aload_n 0, 1) := by decide +kernel
theorem dX5_enter_7 : decode cX5_enter 7 = .ok (.iconst 3, 1) := by decide +kernel
theorem dX5_enter_8 : decode cX5_enter 8 = .ok (.invokevirtual 71, 3) := by decide +kernel
theorem dX5_enter_11 : decode cX5_enter 11 = .ok (.ireturn, 1) := by decide +kernel
theorem dX5_enter_12 : decode cX5_enter 12 = .ok (.aload_n 0, 1) := by decide +kernel
theorem dX5_enter_13 : decode cX5_enter 13 = .ok (.aload_n 0, 1) := by decide +kernel
theorem dX5_enter_14 : decode cX5_enter 14 = .ok (.getfield 47, 3) := by decide +kernel
theorem dX5_enter_17 : decode cX5_enter 17 = .ok (.iconst 1, 1) := by decide +kernel
theorem dX5_enter_18 : decode cX5_enter 18 = .ok (.iadd, 1) := by decide +kernel
theorem dX5_enter_19 : decode cX5_enter 19 = .ok (.invokevirtual 32, 3) := by decide +kernel
theorem dX5_enter_22 : decode cX5_enter 22 = .ok (.iconst 1, 1) := by decide +kernel
theorem dX5_enter_23 : decode cX5_enter 23 = .ok (.ireturn, 1) := by decide +kernel
def m5_enter : pMT := (yX5_enter, cX5_enter, 2, some .boolean)
theorem mo5_enter : mOK m5_enter 1 := ⟨tb_i 620 (by decide +kernel), wi_RX5, ⟨wn_RX5.1, wn_RX5.2, by decide +kernel⟩, by decide, plainFor_of_name wp_RX5⟩
theorem mv5_enter : mV m5_enter := ⟨tb_i 619 (by decide +kernel), tb_p 21 (by decide +kernel)⟩
def f5_enter (I : (Nat → Nat → Int32)) (O : (Nat → Nat → Option Nat)) (a0 : Nat) (x1 : Int32) : Option (Int32 × (Nat → Nat → Int32)) := (if x1 < (8 : Int32) then (f5_comeTo I O a0 ((I a0 2) + 1)).bind fun r2 => some ((1 : Int32), r2) else (f5_refuse I O a0 (3 : Int32)).bind fun r4 => some (r4.1, r4.2))
set_option maxHeartbeats 4000000 in
set_option maxRecDepth 20000 in
theorem o5_enter {g : pG} {Qx : Option Value → pW → Prop} {Z : pZ} {I : (Nat → Nat → Int32)} {L : (Nat → Nat → Int64)} {O : (Nat → Nat → Option Nat)} {a0 : Nat} {x1 : Int32} {res : Int32 × (Nat → Nat → Int32)} (d : Nat) (hW : WT Z O) (hZ0 : Z[a0]? = some (5, 8)) (h : f5_enter I O a0 x1 = some res) (hQ : (res.1 = 0 ∨ res.1 = 1) → Qx (some (.int res.1)) (Z, res.2, L, O)) : Ok g (d + 3, RX5, cX5_enter, 2, false, 0, 0, Z.length, pSl Z) Qx 0 [(0, .ref a0), (1, .int x1)] [] (Z, I, L, O) := by
  unfold f5_enter at h
  refine ok_iload_n dX5_enter_0 1 rfl ?_
  refine ok_bipush (v := 8) dX5_enter_1 (by decide) ?_
  refine ok_icmp_lt (t := 12) dX5_enter_3 (by decide) (fun hc1 => ?_) (fun hc1 => ?_)
  · have h := (if_pos hc1).symm.trans h
    refine ok_aload_n dX5_enter_12 0 rfl ?_
    refine ok_aload_n dX5_enter_13 0 rfl ?_
    refine ok_getI (ci := 5) (k := 2) dX5_enter_14 flRX5_47 rfl hZ0 (by decide) ?_
    refine ok_iconst (v := 1) dX5_enter_17 (by decide) ?_
    refine ok_iadd dX5_enter_18 ?_
    obtain ⟨r2, hr3, h⟩ := bd h
    refine ok_callV (d := ((d + 0) + 2)) (mt := m5_comeTo) (mc := 0) (ms := 0) (As := [.int ((I a0 2) + 1)]) (r := []) dX5_enter_19 mo5_comeTo mv5_comeTo lkRX5_32 rfl hZ0 (q := (RX5, TX5, 8)) rfl rfl rfl (Nat.le_of_ble_eq_true rfl) (by show _ + 1 ≤ d + _; omega) (Nat.le_refl _) (Nat.le_refl _) (pRt_mono ?_)
    refine k5_comeTo (d + 0) hW hZ0 hr3 ?_
    intro _
    show Ok g _ Qx 22 [(0, .ref a0), (1, .int x1)] [] (Z, r2, L, O)
    refine ok_iconst (v := 1) dX5_enter_22 (by decide) ?_
    cases h
    exact ok_iret dX5_enter_23 (hQ (Or.inr rfl))
  · have h := (if_neg hc1).symm.trans h
    refine ok_aload_n dX5_enter_6 0 rfl ?_
    refine ok_iconst (v := 3) dX5_enter_7 (by decide) ?_
    obtain ⟨r4, hr5, h⟩ := bd h
    refine ok_callV (d := ((d + 0) + 2)) (mt := m5_refuse) (mc := 0) (ms := 0) (As := [.int 3]) (r := []) dX5_enter_8 mo5_refuse mv5_refuse lkRX5_71 rfl hZ0 (q := (RX5, TX5, 8)) rfl rfl rfl (Nat.le_of_ble_eq_true rfl) (by show _ + 1 ≤ d + _; omega) (Nat.le_refl _) (Nat.le_refl _) (pRt_mono ?_)
    refine k5_refuse (d + 0) hW hZ0 hr5 ?_
    intro hbr4
    show Ok g _ Qx 11 [(0, .ref a0), (1, .int x1)] [.int r4.1] (Z, r4.2, L, O)
    cases h
    exact ok_iret dX5_enter_11 (hQ hbr4)
theorem k5_enter {g : pG} {Q : Option Value → pW → Prop} {Z : pZ} {I : (Nat → Nat → Int32)} {L : (Nat → Nat → Int64)} {O : (Nat → Nat → Option Nat)} {a0 : Nat} {x1 : Int32} {res : Int32 × (Nat → Nat → Int32)} (d : Nat) (hW : WT Z O) (hZ0 : Z[a0]? = some (5, 8)) (h : f5_enter I O a0 x1 = some res) (hQ : Q (some (.int res.1)) (Z, res.2, L, O)) : CT g (d + 3) m5_enter 0 0 [.ref a0, .int x1] (Z, I, L, O) Q :=
  ct_of_ok (mt := m5_enter) (ini := false) mo5_enter.2.2.2.2 (fun h => by cases h) (Nat.le_of_ble_eq_true rfl) (o5_enter d hW hZ0 h (fun hb => ⟨hb, hQ, rfl, rfl⟩))
theorem dX5_readName_0 : decode cX5_readName 0 = .ok (.iload_n 1, 1) := by decide +kernel
theorem dX5_readName_1 : decode cX5_readName 1 = .ok (.bipush 10, 2) := by decide +kernel
theorem dX5_readName_3 : decode cX5_readName 3 = .ok (.if_icmp .eq 9, 3) := by decide +kernel
theorem dX5_readName_6 : decode cX5_readName 6 = .ok (.iload_n 1, 1) := by decide +kernel
theorem dX5_readName_7 : decode cX5_readName 7 = .ok (.bipush 11, 2) := by decide +kernel
theorem dX5_readName_9 : decode cX5_readName 9 = .ok (.if_icmp .ne 7, 3) := by decide +kernel
theorem dX5_readName_12 : decode cX5_readName 12 = .ok (.iconst 1, 1) := by decide +kernel
theorem dX5_readName_13 : decode cX5_readName 13 = .ok (.goto 4, 3) := by decide +kernel
theorem dX5_readName_16 : decode cX5_readName 16 = .ok (.iconst 0, 1) := by decide +kernel
theorem dX5_readName_17 : decode cX5_readName 17 = .ok (.istore_n 2, 1) := by decide +kernel
theorem dX5_readName_18 : decode cX5_readName 18 = .ok (.iload_n 1, 1) := by decide +kernel
theorem dX5_readName_19 : decode cX5_readName 19 = .ok (.bipush 7, 2) := by decide +kernel
theorem dX5_readName_21 : decode cX5_readName 21 = .ok (.if_icmp .eq 15, 3) := by decide +kernel
theorem dX5_readName_24 : decode cX5_readName 24 = .ok (.iload_n 1, 1) := by decide +kernel
theorem dX5_readName_25 : decode cX5_readName 25 = .ok (.bipush 12, 2) := by decide +kernel
theorem dX5_readName_27 : decode cX5_readName 27 = .ok (.if_icmp .eq 9, 3) := by decide +kernel
theorem dX5_readName_30 : decode cX5_readName 30 = .ok (.iload_n 1, 1) := by decide +kernel
theorem dX5_readName_31 : decode cX5_readName 31 = .ok (.bipush 13, 2) := by decide +kernel
theorem dX5_readName_33 : decode cX5_readName 33 = .ok (.if_icmp .ne 7, 3) := by decide +kernel
theorem dX5_readName_36 : decode cX5_readName 36 = .ok (.iconst 1, 1) := by decide +kernel
theorem dX5_readName_37 : decode cX5_readName 37 = .ok (.goto 4, 3) := by decide +kernel
theorem dX5_readName_40 : decode cX5_readName 40 = .ok (.iconst 0, 1) := by decide +kernel
theorem dX5_readName_41 : decode cX5_readName 41 = .ok (.istore_n 3, 1) := by decide +kernel
theorem dX5_readName_42 : decode cX5_readName 42 = .ok (.iload_n 2, 1) := by decide +kernel
theorem dX5_readName_43 : decode cX5_readName 43 = .ok (.ifCond .eq 11, 3) := by decide +kernel
theorem dX5_readName_46 : decode cX5_readName 46 = .ok (.aload_n 0, 1) := by decide +kernel
theorem dX5_readName_47 : decode cX5_readName 47 = .ok (.getfield 109, 3) := by decide +kernel
theorem dX5_readName_50 : decode cX5_readName 50 = .ok (.iconst 2, 1) := by decide +kernel
theorem dX5_readName_51 : decode cX5_readName 51 = .ok (.if_icmp .eq 15, 3) := by decide +kernel
theorem dX5_readName_54 : decode cX5_readName 54 = .ok (.iload_n 3, 1) := by decide +kernel
theorem dX5_readName_55 : decode cX5_readName 55 = .ok (.ifCond .eq 17, 3) := by decide +kernel
theorem dX5_readName_58 : decode cX5_readName 58 = .ok (.aload_n 0, 1) := by decide +kernel
theorem dX5_readName_59 : decode cX5_readName 59 = .ok (.getfield 109, 3) := by decide +kernel
theorem dX5_readName_62 : decode cX5_readName 62 = .ok (.iconst 1, 1) := by decide +kernel
theorem dX5_readName_63 : decode cX5_readName 63 = .ok (.if_icmp .ne 9, 3) := by decide +kernel
theorem dX5_readName_66 : decode cX5_readName 66 = .ok (.aload_n 0, 1) := by decide +kernel
theorem dX5_readName_67 : decode cX5_readName 67 = .ok (.iconst 5, 1) := by decide +kernel
theorem dX5_readName_68 : decode cX5_readName 68 = .ok (.invokevirtual 71, 3) := by decide +kernel
theorem dX5_readName_71 : decode cX5_readName 71 = .ok (.ireturn, 1) := by decide +kernel
theorem dX5_readName_72 : decode cX5_readName 72 = .ok (.aload_n 0, 1) := by decide +kernel
theorem dX5_readName_73 : decode cX5_readName 73 = .ok (.getfield 12, 3) := by decide +kernel
theorem dX5_readName_76 : decode cX5_readName 76 = .ok (.iload_n 1, 1) := by decide +kernel
theorem dX5_readName_77 : decode cX5_readName 77 = .ok (.invokevirtual 105, 3) := by decide +kernel
theorem dX5_readName_80 : decode cX5_readName 80 = .ok (.pop, 1) := by decide +kernel
theorem dX5_readName_81 : decode cX5_readName 81 = .ok (.aload_n 0, 1) := by decide +kernel
theorem dX5_readName_82 : decode cX5_readName 82 = .ok (.aload_n 0, 1) := by decide +kernel
theorem dX5_readName_83 : decode cX5_readName 83 = .ok (.getfield 47, 3) := by decide +kernel
theorem dX5_readName_86 : decode cX5_readName 86 = .ok (.iconst 1, 1) := by decide +kernel
theorem dX5_readName_87 : decode cX5_readName 87 = .ok (.iadd, 1) := by decide +kernel
theorem dX5_readName_88 : decode cX5_readName 88 = .ok (.invokevirtual 32, 3) := by decide +kernel
theorem dX5_readName_91 : decode cX5_readName 91 = .ok (.iconst 1, 1) := by decide +kernel
theorem dX5_readName_92 : decode cX5_readName 92 = .ok (.ireturn, 1) := by decide +kernel
def m5_readName : pMT := (yX5_readName, cX5_readName, 4, some .boolean)
theorem mo5_readName : mOK m5_readName 1 := ⟨tb_i 612 (by decide +kernel), wi_RX5, ⟨wn_RX5.1, wn_RX5.2, by decide +kernel⟩, by decide, plainFor_of_name wp_RX5⟩
theorem mv5_readName : mV m5_readName := ⟨tb_i 611 (by decide +kernel), tb_p 19 (by decide +kernel)⟩
def f5_readName_c72 (O : (Nat → Nat → Option Nat)) (I : (Nat → Nat → Int32)) (b0 : Nat) (y1 : Int32) : Option (Int32 × (Nat → Nat → Int32)) := (f7_add I O (rO O b0 1) y1).bind fun r2 => (f5_comeTo r2.2 O b0 ((r2.2 b0 2) + 1)).bind fun r4 => some ((1 : Int32), r4)
set_option maxHeartbeats 4000000 in
set_option maxRecDepth 20000 in
theorem o5_readName_c72 {g : pG} {Qx : Option Value → pW → Prop} {Z : pZ} {L : (Nat → Nat → Int64)} {O : (Nat → Nat → Option Nat)} {res : Int32 × (Nat → Nat → Int32)} (d : Nat) (hW : WT Z O) (hQ : (res.1 = 0 ∨ res.1 = 1) → Qx (some (.int res.1)) (Z, res.2, L, O)) (I : (Nat → Nat → Int32)) (b0 : Nat) (y1 : Int32) (hZ_b0 : Z[b0]? = some (5, 8)) (h : f5_readName_c72 O I b0 y1 = some res) : Ok g (d + 3, RX5, cX5_readName, 4, false, 0, 0, Z.length, pSl Z) Qx 72 [(0, .ref b0), (1, .int y1)] [] (Z, I, L, O) := by
  unfold f5_readName_c72 at h
  refine ok_aload_n dX5_readName_72 0 rfl ?_
  have hT1 : Z[(rO O b0 1)]? = some (7, 7) := (wt_f (ci := 5) (k := 1) hW hZ_b0 rfl).2
  refine ok_getR (ci := 5) (k := 1) dX5_readName_73 flRX5_12 rfl hW hZ_b0 (by decide) ?_
  refine ok_iload_n dX5_readName_76 1 rfl ?_
  obtain ⟨r2, hr3, h⟩ := bd h
  refine ok_callV (d := ((d + 0) + 2)) (mt := m7_add) (mc := 0) (ms := 0) (As := [.int y1]) (r := []) dX5_readName_77 mo7_add mv7_add lkRX5_105 rfl hT1 (q := (RX7, TX7, 7)) rfl rfl rfl (Nat.le_of_ble_eq_true rfl) (by show _ + 1 ≤ d + _; omega) (Nat.le_refl _) (Nat.le_refl _) (pRt_mono ?_)
  refine k7_add (d + 0) hW hT1 hr3 ?_
  intro _
  show Ok g _ Qx 80 [(0, .ref b0), (1, .int y1)] [.int r2.1] (Z, r2.2, L, O)
  refine ok_pop dX5_readName_80 rfl ?_
  refine ok_aload_n dX5_readName_81 0 rfl ?_
  refine ok_aload_n dX5_readName_82 0 rfl ?_
  refine ok_getI (ci := 5) (k := 2) dX5_readName_83 flRX5_47 rfl hZ_b0 (by decide) ?_
  refine ok_iconst (v := 1) dX5_readName_86 (by decide) ?_
  refine ok_iadd dX5_readName_87 ?_
  obtain ⟨r4, hr5, h⟩ := bd h
  refine ok_callV (d := ((d + 0) + 2)) (mt := m5_comeTo) (mc := 0) (ms := 0) (As := [.int ((r2.2 b0 2) + 1)]) (r := []) dX5_readName_88 mo5_comeTo mv5_comeTo lkRX5_32 rfl hZ_b0 (q := (RX5, TX5, 8)) rfl rfl rfl (Nat.le_of_ble_eq_true rfl) (by show _ + 1 ≤ d + _; omega) (Nat.le_refl _) (Nat.le_refl _) (pRt_mono ?_)
  refine k5_comeTo (d + 0) hW hZ_b0 hr5 ?_
  intro _
  show Ok g _ Qx 91 [(0, .ref b0), (1, .int y1)] [] (Z, r4, L, O)
  refine ok_iconst (v := 1) dX5_readName_91 (by decide) ?_
  cases h
  exact ok_iret dX5_readName_92 (hQ (Or.inr rfl))
def f5_readName_c54 (O : (Nat → Nat → Option Nat)) (I : (Nat → Nat → Int32)) (b0 : Nat) (y1 : Int32) (y3 : Int32) : Option (Int32 × (Nat → Nat → Int32)) := (if y3 = 0 then f5_readName_c72 O I b0 y1 else (if (I b0 5) = (1 : Int32) then (f5_refuse I O b0 (5 : Int32)).bind fun r3 => some (r3.1, r3.2) else f5_readName_c72 O I b0 y1))
set_option maxHeartbeats 4000000 in
set_option maxRecDepth 20000 in
theorem o5_readName_c54 {g : pG} {Qx : Option Value → pW → Prop} {Z : pZ} {L : (Nat → Nat → Int64)} {O : (Nat → Nat → Option Nat)} {res : Int32 × (Nat → Nat → Int32)} (d : Nat) (hW : WT Z O) (hQ : (res.1 = 0 ∨ res.1 = 1) → Qx (some (.int res.1)) (Z, res.2, L, O)) (I : (Nat → Nat → Int32)) (b0 : Nat) (y1 : Int32) (y3 : Int32) (hZ_b0 : Z[b0]? = some (5, 8)) (hz_y3 : y3 = 0 ∨ y3 = 1) (h : f5_readName_c54 O I b0 y1 y3 = some res) : Ok g (d + 3, RX5, cX5_readName, 4, false, 0, 0, Z.length, pSl Z) Qx 54 [(0, .ref b0), (1, .int y1), (3, .int y3)] [] (Z, I, L, O) := by
  unfold f5_readName_c54 at h
  refine ok_iload_n dX5_readName_54 2 rfl ?_
  refine ok_if_eq (t := 72) dX5_readName_55 (by decide) (fun hc1 => ?_) (fun hc1 => ?_)
  · have h := (if_pos hc1).symm.trans h
    refine ok_sub [0, 1] rfl ?_
    exact o5_readName_c72 d hW hQ  I b0 y1 hZ_b0 h
  · have h := (if_neg hc1).symm.trans h
    refine ok_aload_n dX5_readName_58 0 rfl ?_
    refine ok_getI (ci := 5) (k := 5) dX5_readName_59 flRX5_109 rfl hZ_b0 (by decide) ?_
    refine ok_iconst (v := 1) dX5_readName_62 (by decide) ?_
    refine ok_icmp_ne (t := 72) dX5_readName_63 (by decide) (fun hc2 => ?_) (fun hc2 => ?_)
    · have h := (if_neg hc2).symm.trans h
      refine ok_sub [0, 1] rfl ?_
      exact o5_readName_c72 d hW hQ  I b0 y1 hZ_b0 h
    · have h := (if_pos hc2).symm.trans h
      refine ok_aload_n dX5_readName_66 0 rfl ?_
      refine ok_iconst (v := 5) dX5_readName_67 (by decide) ?_
      obtain ⟨r3, hr4, h⟩ := bd h
      refine ok_callV (d := ((d + 0) + 2)) (mt := m5_refuse) (mc := 0) (ms := 0) (As := [.int 5]) (r := []) dX5_readName_68 mo5_refuse mv5_refuse lkRX5_71 rfl hZ_b0 (q := (RX5, TX5, 8)) rfl rfl rfl (Nat.le_of_ble_eq_true rfl) (by show _ + 1 ≤ d + _; omega) (Nat.le_refl _) (Nat.le_refl _) (pRt_mono ?_)
      refine k5_refuse (d + 0) hW hZ_b0 hr4 ?_
      intro hbr3
      show Ok g _ Qx 71 [(0, .ref b0), (1, .int y1), (3, .int y3)] [.int r3.1] (Z, r3.2, L, O)
      cases h
      exact ok_iret dX5_readName_71 (hQ hbr3)
def f5_readName_c41 (O : (Nat → Nat → Option Nat)) (I : (Nat → Nat → Int32)) (b0 : Nat) (y1 : Int32) (y2 : Int32) (t0 : Int32) : Option (Int32 × (Nat → Nat → Int32)) := (if y2 = 0 then f5_readName_c54 O I b0 y1 t0 else (if (I b0 5) = (2 : Int32) then (f5_refuse I O b0 (5 : Int32)).bind fun r3 => some (r3.1, r3.2) else f5_readName_c54 O I b0 y1 t0))
set_option maxHeartbeats 4000000 in
set_option maxRecDepth 20000 in
theorem o5_readName_c41 {g : pG} {Qx : Option Value → pW → Prop} {Z : pZ} {L : (Nat → Nat → Int64)} {O : (Nat → Nat → Option Nat)} {res : Int32 × (Nat → Nat → Int32)} (d : Nat) (hW : WT Z O) (hQ : (res.1 = 0 ∨ res.1 = 1) → Qx (some (.int res.1)) (Z, res.2, L, O)) (I : (Nat → Nat → Int32)) (b0 : Nat) (y1 : Int32) (y2 : Int32) (t0 : Int32) (hZ_b0 : Z[b0]? = some (5, 8)) (hz_y2 : y2 = 0 ∨ y2 = 1) (hz_t0 : t0 = 0 ∨ t0 = 1) (h : f5_readName_c41 O I b0 y1 y2 t0 = some res) : Ok g (d + 3, RX5, cX5_readName, 4, false, 0, 0, Z.length, pSl Z) Qx 41 [(0, .ref b0), (1, .int y1), (2, .int y2)] [.int t0] (Z, I, L, O) := by
  unfold f5_readName_c41 at h
  refine ok_istore_n (l' := [(3, .int t0), (0, .ref b0), (1, .int y1), (2, .int y2)]) dX5_readName_41 rfl (Nat.le_of_ble_eq_true rfl) rfl ?_
  refine ok_iload_n dX5_readName_42 3 rfl ?_
  refine ok_if_eq (t := 54) dX5_readName_43 (by decide) (fun hc1 => ?_) (fun hc1 => ?_)
  · have h := (if_pos hc1).symm.trans h
    refine ok_sub [1, 2, 0] rfl ?_
    exact o5_readName_c54 d hW hQ  I b0 y1 t0 hZ_b0 hz_t0 h
  · have h := (if_neg hc1).symm.trans h
    refine ok_aload_n dX5_readName_46 1 rfl ?_
    refine ok_getI (ci := 5) (k := 5) dX5_readName_47 flRX5_109 rfl hZ_b0 (by decide) ?_
    refine ok_iconst (v := 2) dX5_readName_50 (by decide) ?_
    refine ok_icmp_eq (t := 66) dX5_readName_51 (by decide) (fun hc2 => ?_) (fun hc2 => ?_)
    · have h := (if_pos hc2).symm.trans h
      refine ok_aload_n dX5_readName_66 1 rfl ?_
      refine ok_iconst (v := 5) dX5_readName_67 (by decide) ?_
      obtain ⟨r3, hr4, h⟩ := bd h
      refine ok_callV (d := ((d + 0) + 2)) (mt := m5_refuse) (mc := 0) (ms := 0) (As := [.int 5]) (r := []) dX5_readName_68 mo5_refuse mv5_refuse lkRX5_71 rfl hZ_b0 (q := (RX5, TX5, 8)) rfl rfl rfl (Nat.le_of_ble_eq_true rfl) (by show _ + 1 ≤ d + _; omega) (Nat.le_refl _) (Nat.le_refl _) (pRt_mono ?_)
      refine k5_refuse (d + 0) hW hZ_b0 hr4 ?_
      intro hbr3
      show Ok g _ Qx 71 [(3, .int t0), (0, .ref b0), (1, .int y1), (2, .int y2)] [.int r3.1] (Z, r3.2, L, O)
      cases h
      exact ok_iret dX5_readName_71 (hQ hbr3)
    · have h := (if_neg hc2).symm.trans h
      refine ok_sub [1, 2, 0] rfl ?_
      exact o5_readName_c54 d hW hQ  I b0 y1 t0 hZ_b0 hz_t0 h
def f5_readName_c36 (O : (Nat → Nat → Option Nat)) (I : (Nat → Nat → Int32)) (b0 : Nat) (y1 : Int32) (y2 : Int32) : Option (Int32 × (Nat → Nat → Int32)) := f5_readName_c41 O I b0 y1 y2 (1 : Int32)
set_option maxHeartbeats 4000000 in
set_option maxRecDepth 20000 in
theorem o5_readName_c36 {g : pG} {Qx : Option Value → pW → Prop} {Z : pZ} {L : (Nat → Nat → Int64)} {O : (Nat → Nat → Option Nat)} {res : Int32 × (Nat → Nat → Int32)} (d : Nat) (hW : WT Z O) (hQ : (res.1 = 0 ∨ res.1 = 1) → Qx (some (.int res.1)) (Z, res.2, L, O)) (I : (Nat → Nat → Int32)) (b0 : Nat) (y1 : Int32) (y2 : Int32) (hZ_b0 : Z[b0]? = some (5, 8)) (hz_y2 : y2 = 0 ∨ y2 = 1) (h : f5_readName_c36 O I b0 y1 y2 = some res) : Ok g (d + 3, RX5, cX5_readName, 4, false, 0, 0, Z.length, pSl Z) Qx 36 [(0, .ref b0), (1, .int y1), (2, .int y2)] [] (Z, I, L, O) := by
  unfold f5_readName_c36 at h
  refine ok_iconst (v := 1) dX5_readName_36 (by decide) ?_
  refine ok_goto (t := 41) dX5_readName_37 (by decide) ?_
  refine ok_sub [0, 1, 2] rfl ?_
  exact o5_readName_c41 d hW hQ  I b0 y1 y2 (1 : Int32) hZ_b0 hz_y2 (Or.inr rfl) h
def f5_readName_c17 (O : (Nat → Nat → Option Nat)) (I : (Nat → Nat → Int32)) (b0 : Nat) (y1 : Int32) (t0 : Int32) : Option (Int32 × (Nat → Nat → Int32)) := (if y1 = (7 : Int32) then f5_readName_c36 O I b0 y1 t0 else (if y1 = (12 : Int32) then f5_readName_c36 O I b0 y1 t0 else (if y1 = (13 : Int32) then f5_readName_c36 O I b0 y1 t0 else f5_readName_c41 O I b0 y1 t0 (0 : Int32))))
set_option maxHeartbeats 4000000 in
set_option maxRecDepth 20000 in
theorem o5_readName_c17 {g : pG} {Qx : Option Value → pW → Prop} {Z : pZ} {L : (Nat → Nat → Int64)} {O : (Nat → Nat → Option Nat)} {res : Int32 × (Nat → Nat → Int32)} (d : Nat) (hW : WT Z O) (hQ : (res.1 = 0 ∨ res.1 = 1) → Qx (some (.int res.1)) (Z, res.2, L, O)) (I : (Nat → Nat → Int32)) (b0 : Nat) (y1 : Int32) (t0 : Int32) (hZ_b0 : Z[b0]? = some (5, 8)) (hz_t0 : t0 = 0 ∨ t0 = 1) (h : f5_readName_c17 O I b0 y1 t0 = some res) : Ok g (d + 3, RX5, cX5_readName, 4, false, 0, 0, Z.length, pSl Z) Qx 17 [(0, .ref b0), (1, .int y1)] [.int t0] (Z, I, L, O) := by
  unfold f5_readName_c17 at h
  refine ok_istore_n (l' := [(2, .int t0), (0, .ref b0), (1, .int y1)]) dX5_readName_17 rfl (Nat.le_of_ble_eq_true rfl) rfl ?_
  refine ok_iload_n dX5_readName_18 2 rfl ?_
  refine ok_bipush (v := 7) dX5_readName_19 (by decide) ?_
  refine ok_icmp_eq (t := 36) dX5_readName_21 (by decide) (fun hc1 => ?_) (fun hc1 => ?_)
  · have h := (if_pos hc1).symm.trans h
    refine ok_sub [1, 2, 0] rfl ?_
    exact o5_readName_c36 d hW hQ  I b0 y1 t0 hZ_b0 hz_t0 h
  · have h := (if_neg hc1).symm.trans h
    refine ok_iload_n dX5_readName_24 2 rfl ?_
    refine ok_bipush (v := 12) dX5_readName_25 (by decide) ?_
    refine ok_icmp_eq (t := 36) dX5_readName_27 (by decide) (fun hc2 => ?_) (fun hc2 => ?_)
    · have h := (if_pos hc2).symm.trans h
      refine ok_sub [1, 2, 0] rfl ?_
      exact o5_readName_c36 d hW hQ  I b0 y1 t0 hZ_b0 hz_t0 h
    · have h := (if_neg hc2).symm.trans h
      refine ok_iload_n dX5_readName_30 2 rfl ?_
      refine ok_bipush (v := 13) dX5_readName_31 (by decide) ?_
      refine ok_icmp_ne (t := 40) dX5_readName_33 (by decide) (fun hc3 => ?_) (fun hc3 => ?_)
      · have h := (if_neg hc3).symm.trans h
        refine ok_iconst (v := 0) dX5_readName_40 (by decide) ?_
        refine ok_sub [1, 2, 0] rfl ?_
        exact o5_readName_c41 d hW hQ  I b0 y1 t0 (0 : Int32) hZ_b0 hz_t0 (Or.inl rfl) h
      · have h := (if_pos hc3).symm.trans h
        refine ok_sub [1, 2, 0] rfl ?_
        exact o5_readName_c36 d hW hQ  I b0 y1 t0 hZ_b0 hz_t0 h
def f5_readName_c12 (O : (Nat → Nat → Option Nat)) (I : (Nat → Nat → Int32)) (b0 : Nat) (y1 : Int32) : Option (Int32 × (Nat → Nat → Int32)) := f5_readName_c17 O I b0 y1 (1 : Int32)
set_option maxHeartbeats 4000000 in
set_option maxRecDepth 20000 in
theorem o5_readName_c12 {g : pG} {Qx : Option Value → pW → Prop} {Z : pZ} {L : (Nat → Nat → Int64)} {O : (Nat → Nat → Option Nat)} {res : Int32 × (Nat → Nat → Int32)} (d : Nat) (hW : WT Z O) (hQ : (res.1 = 0 ∨ res.1 = 1) → Qx (some (.int res.1)) (Z, res.2, L, O)) (I : (Nat → Nat → Int32)) (b0 : Nat) (y1 : Int32) (hZ_b0 : Z[b0]? = some (5, 8)) (h : f5_readName_c12 O I b0 y1 = some res) : Ok g (d + 3, RX5, cX5_readName, 4, false, 0, 0, Z.length, pSl Z) Qx 12 [(0, .ref b0), (1, .int y1)] [] (Z, I, L, O) := by
  unfold f5_readName_c12 at h
  refine ok_iconst (v := 1) dX5_readName_12 (by decide) ?_
  refine ok_goto (t := 17) dX5_readName_13 (by decide) ?_
  refine ok_sub [0, 1] rfl ?_
  exact o5_readName_c17 d hW hQ  I b0 y1 (1 : Int32) hZ_b0 (Or.inr rfl) h
def f5_readName (I : (Nat → Nat → Int32)) (O : (Nat → Nat → Option Nat)) (a0 : Nat) (x1 : Int32) : Option (Int32 × (Nat → Nat → Int32)) := (if x1 = (10 : Int32) then f5_readName_c12 O I a0 x1 else (if x1 = (11 : Int32) then f5_readName_c12 O I a0 x1 else f5_readName_c17 O I a0 x1 (0 : Int32)))
set_option maxHeartbeats 4000000 in
set_option maxRecDepth 20000 in
theorem o5_readName {g : pG} {Qx : Option Value → pW → Prop} {Z : pZ} {I : (Nat → Nat → Int32)} {L : (Nat → Nat → Int64)} {O : (Nat → Nat → Option Nat)} {a0 : Nat} {x1 : Int32} {res : Int32 × (Nat → Nat → Int32)} (d : Nat) (hW : WT Z O) (hZ0 : Z[a0]? = some (5, 8)) (h : f5_readName I O a0 x1 = some res) (hQ : (res.1 = 0 ∨ res.1 = 1) → Qx (some (.int res.1)) (Z, res.2, L, O)) : Ok g (d + 3, RX5, cX5_readName, 4, false, 0, 0, Z.length, pSl Z) Qx 0 [(0, .ref a0), (1, .int x1)] [] (Z, I, L, O) := by
  unfold f5_readName at h
  refine ok_iload_n dX5_readName_0 1 rfl ?_
  refine ok_bipush (v := 10) dX5_readName_1 (by decide) ?_
  refine ok_icmp_eq (t := 12) dX5_readName_3 (by decide) (fun hc1 => ?_) (fun hc1 => ?_)
  · have h := (if_pos hc1).symm.trans h
    refine ok_sub [0, 1] rfl ?_
    exact o5_readName_c12 d hW hQ  I a0 x1 hZ0 h
  · have h := (if_neg hc1).symm.trans h
    refine ok_iload_n dX5_readName_6 1 rfl ?_
    refine ok_bipush (v := 11) dX5_readName_7 (by decide) ?_
    refine ok_icmp_ne (t := 16) dX5_readName_9 (by decide) (fun hc2 => ?_) (fun hc2 => ?_)
    · have h := (if_neg hc2).symm.trans h
      refine ok_iconst (v := 0) dX5_readName_16 (by decide) ?_
      refine ok_sub [0, 1] rfl ?_
      exact o5_readName_c17 d hW hQ  I a0 x1 (0 : Int32) hZ0 (Or.inl rfl) h
    · have h := (if_pos hc2).symm.trans h
      refine ok_sub [0, 1] rfl ?_
      exact o5_readName_c12 d hW hQ  I a0 x1 hZ0 h
theorem k5_readName {g : pG} {Q : Option Value → pW → Prop} {Z : pZ} {I : (Nat → Nat → Int32)} {L : (Nat → Nat → Int64)} {O : (Nat → Nat → Option Nat)} {a0 : Nat} {x1 : Int32} {res : Int32 × (Nat → Nat → Int32)} (d : Nat) (hW : WT Z O) (hZ0 : Z[a0]? = some (5, 8)) (h : f5_readName I O a0 x1 = some res) (hQ : Q (some (.int res.1)) (Z, res.2, L, O)) : CT g (d + 3) m5_readName 0 0 [.ref a0, .int x1] (Z, I, L, O) Q :=
  ct_of_ok (mt := m5_readName) (ini := false) mo5_readName.2.2.2.2 (fun h => by cases h) (Nat.le_of_ble_eq_true rfl) (o5_readName d hW hZ0 h (fun hb => ⟨hb, hQ, rfl, rfl⟩))
theorem dX5_compares_0 : decode cX5_compares 0 = .ok (.iload_n 0, 1) := by decide +kernel
theorem dX5_compares_1 : decode cX5_compares 1 = .ok (.bipush 60, 2) := by decide +kernel
theorem dX5_compares_3 : decode cX5_compares 3 = .ok (.if_icmp .eq 35, 3) := by decide +kernel
theorem dX5_compares_6 : decode cX5_compares 6 = .ok (.iload_n 0, 1) := by decide +kernel
theorem dX5_compares_7 : decode cX5_compares 7 = .ok (.bipush 62, 2) := by decide +kernel
theorem dX5_compares_9 : decode cX5_compares 9 = .ok (.if_icmp .eq 29, 3) := by decide +kernel
theorem dX5_compares_12 : decode cX5_compares 12 = .ok (.iload_n 0, 1) := by decide +kernel
theorem dX5_compares_13 : decode cX5_compares 13 = .ok (.bipush 61, 2) := by decide +kernel
theorem dX5_compares_15 : decode cX5_compares 15 = .ok (.if_icmp .eq 23, 3) := by decide +kernel
theorem dX5_compares_18 : decode cX5_compares 18 = .ok (.iload_n 0, 1) := by decide +kernel
theorem dX5_compares_19 : decode cX5_compares 19 = .ok (.bipush 35, 2) := by decide +kernel
theorem dX5_compares_21 : decode cX5_compares 21 = .ok (.if_icmp .eq 17, 3) := by decide +kernel
theorem dX5_compares_24 : decode cX5_compares 24 = .ok (.iload_n 0, 1) := by decide +kernel
theorem dX5_compares_25 : decode cX5_compares 25 = .ok (.sipush 316, 3) := by decide +kernel
theorem dX5_compares_28 : decode cX5_compares 28 = .ok (.if_icmp .eq 10, 3) := by decide +kernel
theorem dX5_compares_31 : decode cX5_compares 31 = .ok (.iload_n 0, 1) := by decide +kernel
theorem dX5_compares_32 : decode cX5_compares 32 = .ok (.sipush 318, 3) := by decide +kernel
theorem dX5_compares_35 : decode cX5_compares 35 = .ok (.if_icmp .ne 7, 3) := by decide +kernel
theorem dX5_compares_38 : decode cX5_compares 38 = .ok (.iconst 1, 1) := by decide +kernel
theorem dX5_compares_39 : decode cX5_compares 39 = .ok (.goto 4, 3) := by decide +kernel
theorem dX5_compares_42 : decode cX5_compares 42 = .ok (.iconst 0, 1) := by decide +kernel
theorem dX5_compares_43 : decode cX5_compares 43 = .ok (.ireturn, 1) := by decide +kernel
def m5_compares : pMT := (yX5_compares, cX5_compares, 1, some .boolean)
theorem mo5_compares : mOK m5_compares 1 := ⟨tb_i 639 (by decide +kernel), wi_RX5, ⟨wn_RX5.1, wn_RX5.2, by decide +kernel⟩, by decide, plainFor_of_name wp_RX5⟩
theorem mv5_compares : mS m5_compares := (tb_i 638 (by decide +kernel) : Cond.static yX5_compares ∈ lw_tbl)
def f5_compares (x0 : Int32) : Option (Int32) := (if x0 = (60 : Int32) then some ((1 : Int32)) else (if x0 = (62 : Int32) then some ((1 : Int32)) else (if x0 = (61 : Int32) then some ((1 : Int32)) else (if x0 = (35 : Int32) then some ((1 : Int32)) else (if x0 = (316 : Int32) then some ((1 : Int32)) else (if x0 = (318 : Int32) then some ((1 : Int32)) else some ((0 : Int32))))))))
set_option maxHeartbeats 4000000 in
set_option maxRecDepth 20000 in
theorem o5_compares {g : pG} {Qx : Option Value → pW → Prop} {Z : pZ} {I : (Nat → Nat → Int32)} {L : (Nat → Nat → Int64)} {O : (Nat → Nat → Option Nat)} {x0 : Int32} {res : Int32} (d : Nat) (hW : WT Z O) (h : f5_compares x0 = some res) (hQ : (res = 0 ∨ res = 1) → Qx (some (.int res)) (Z, I, L, O)) : Ok g (d + 2, RX5, cX5_compares, 1, false, 0, 0, Z.length, pSl Z) Qx 0 [(0, .int x0)] [] (Z, I, L, O) := by
  unfold f5_compares at h
  refine ok_iload_n dX5_compares_0 0 rfl ?_
  refine ok_bipush (v := 60) dX5_compares_1 (by decide) ?_
  refine ok_icmp_eq (t := 38) dX5_compares_3 (by decide) (fun hc1 => ?_) (fun hc1 => ?_)
  · have h := (if_pos hc1).symm.trans h
    refine ok_iconst (v := 1) dX5_compares_38 (by decide) ?_
    refine ok_goto (t := 43) dX5_compares_39 (by decide) ?_
    cases h
    exact ok_iret dX5_compares_43 (hQ (Or.inr rfl))
  · have h := (if_neg hc1).symm.trans h
    refine ok_iload_n dX5_compares_6 0 rfl ?_
    refine ok_bipush (v := 62) dX5_compares_7 (by decide) ?_
    refine ok_icmp_eq (t := 38) dX5_compares_9 (by decide) (fun hc2 => ?_) (fun hc2 => ?_)
    · have h := (if_pos hc2).symm.trans h
      refine ok_iconst (v := 1) dX5_compares_38 (by decide) ?_
      refine ok_goto (t := 43) dX5_compares_39 (by decide) ?_
      cases h
      exact ok_iret dX5_compares_43 (hQ (Or.inr rfl))
    · have h := (if_neg hc2).symm.trans h
      refine ok_iload_n dX5_compares_12 0 rfl ?_
      refine ok_bipush (v := 61) dX5_compares_13 (by decide) ?_
      refine ok_icmp_eq (t := 38) dX5_compares_15 (by decide) (fun hc3 => ?_) (fun hc3 => ?_)
      · have h := (if_pos hc3).symm.trans h
        refine ok_iconst (v := 1) dX5_compares_38 (by decide) ?_
        refine ok_goto (t := 43) dX5_compares_39 (by decide) ?_
        cases h
        exact ok_iret dX5_compares_43 (hQ (Or.inr rfl))
      · have h := (if_neg hc3).symm.trans h
        refine ok_iload_n dX5_compares_18 0 rfl ?_
        refine ok_bipush (v := 35) dX5_compares_19 (by decide) ?_
        refine ok_icmp_eq (t := 38) dX5_compares_21 (by decide) (fun hc4 => ?_) (fun hc4 => ?_)
        · have h := (if_pos hc4).symm.trans h
          refine ok_iconst (v := 1) dX5_compares_38 (by decide) ?_
          refine ok_goto (t := 43) dX5_compares_39 (by decide) ?_
          cases h
          exact ok_iret dX5_compares_43 (hQ (Or.inr rfl))
        · have h := (if_neg hc4).symm.trans h
          refine ok_iload_n dX5_compares_24 0 rfl ?_
          refine ok_sipush (v := 316) dX5_compares_25 (by decide) ?_
          refine ok_icmp_eq (t := 38) dX5_compares_28 (by decide) (fun hc5 => ?_) (fun hc5 => ?_)
          · have h := (if_pos hc5).symm.trans h
            refine ok_iconst (v := 1) dX5_compares_38 (by decide) ?_
            refine ok_goto (t := 43) dX5_compares_39 (by decide) ?_
            cases h
            exact ok_iret dX5_compares_43 (hQ (Or.inr rfl))
          · have h := (if_neg hc5).symm.trans h
            refine ok_iload_n dX5_compares_31 0 rfl ?_
            refine ok_sipush (v := 318) dX5_compares_32 (by decide) ?_
            refine ok_icmp_ne (t := 42) dX5_compares_35 (by decide) (fun hc6 => ?_) (fun hc6 => ?_)
            · have h := (if_neg hc6).symm.trans h
              refine ok_iconst (v := 0) dX5_compares_42 (by decide) ?_
              cases h
              exact ok_iret dX5_compares_43 (hQ (Or.inl rfl))
            · have h := (if_pos hc6).symm.trans h
              refine ok_iconst (v := 1) dX5_compares_38 (by decide) ?_
              refine ok_goto (t := 43) dX5_compares_39 (by decide) ?_
              cases h
              exact ok_iret dX5_compares_43 (hQ (Or.inr rfl))
theorem k5_compares {g : pG} {Q : Option Value → pW → Prop} {Z : pZ} {I : (Nat → Nat → Int32)} {L : (Nat → Nat → Int64)} {O : (Nat → Nat → Option Nat)} {x0 : Int32} {res : Int32} (d : Nat) (hW : WT Z O) (h : f5_compares x0 = some res) (hQ : Q (some (.int res)) (Z, I, L, O)) : CT g (d + 2) m5_compares 0 0 [.int x0] (Z, I, L, O) Q :=
  ct_of_ok (mt := m5_compares) (ini := false) mo5_compares.2.2.2.2 (fun h => by cases h) (Nat.le_of_ble_eq_true rfl) (o5_compares d hW  h (fun hb => ⟨hb, hQ, rfl, rfl⟩))
