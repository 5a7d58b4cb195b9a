theorem flRX12_7 : FL RX12 7 12 0 := ⟨(RX12, TX12, 34), rfl, by decide, tb_i 1305 (by decide +kernel)⟩
theorem flRX12_16 : FL RX12 16 12 2 := ⟨(RX12, TX12, 34), rfl, by decide, tb_i 1307 (by decide +kernel)⟩
theorem flRX12_19 : FL RX12 19 12 3 := ⟨(RX12, TX12, 34), rfl, by decide, tb_i 1308 (by decide +kernel)⟩
theorem flRX12_29 : FL RX12 29 12 15 := ⟨(RX12, TX12, 34), rfl, by decide, tb_i 1320 (by decide +kernel)⟩
theorem flRX12_97 : FL RX12 97 12 4 := ⟨(RX12, TX12, 34), rfl, by decide, tb_i 1309 (by decide +kernel)⟩
theorem flRX12_104 : FL RX12 104 12 7 := ⟨(RX12, TX12, 34), rfl, by decide, tb_i 1312 (by decide +kernel)⟩
theorem flRX12_111 : FL RX12 111 12 8 := ⟨(RX12, TX12, 34), rfl, by decide, tb_i 1313 (by decide +kernel)⟩
theorem flRX12_114 : FL RX12 114 12 9 := ⟨(RX12, TX12, 34), rfl, by decide, tb_i 1314 (by decide +kernel)⟩
theorem flRX12_120 : FL RX12 120 12 10 := ⟨(RX12, TX12, 34), rfl, by decide, tb_i 1315 (by decide +kernel)⟩
theorem flRX12_127 : FL RX12 127 12 11 := ⟨(RX12, TX12, 34), rfl, by decide, tb_i 1316 (by decide +kernel)⟩
theorem flRX12_152 : FL RX12 152 12 12 := ⟨(RX12, TX12, 34), rfl, by decide, tb_i 1317 (by decide +kernel)⟩
theorem flRX12_155 : FL RX12 155 12 13 := ⟨(RX12, TX12, 34), rfl, by decide, tb_i 1318 (by decide +kernel)⟩
theorem flRX12_162 : FL RX12 162 12 14 := ⟨(RX12, TX12, 34), rfl, by decide, tb_i 1319 (by decide +kernel)⟩
theorem flRX12_165 : FL RX12 165 12 16 := ⟨(RX12, TX12, 34), rfl, by decide, tb_i 1321 (by decide +kernel)⟩
theorem flRX12_175 : FL RX12 175 12 17 := ⟨(RX12, TX12, 34), rfl, by decide, tb_i 1322 (by decide +kernel)⟩
theorem lkRX12_75 : Cond.methodLink RX12 75 yX12_isIn ∈ lw_tbl := tb_i 1413 (by decide +kernel)
theorem lkRX12_79 : Cond.methodLink RX12 79 yX12_isRoll ∈ lw_tbl := tb_i 1424 (by decide +kernel)
theorem lkRX12_83 : Cond.methodLink RX12 83 yX12_wearOf ∈ lw_tbl := tb_i 1628 (by decide +kernel)
theorem lkRX12_87 : Cond.methodLink RX12 87 yX12_keyOf ∈ lw_tbl := tb_i 1620 (by decide +kernel)
theorem lkRX12_90 : Cond.methodLink RX12 90 yX12_isTorn ∈ lw_tbl := tb_i 1624 (by decide +kernel)
theorem lkRX12_94 : Cond.methodLink RX12 94 yX12_isPlace ∈ lw_tbl := tb_i 1420 (by decide +kernel)
theorem lkRX12_100 : Cond.methodLink RX12 100 yX12_four ∈ lw_tbl := tb_i 1440 (by decide +kernel)
theorem lkRX12_107 : Cond.methodLink RX12 107 yX12_byteAt ∈ lw_tbl := tb_i 1460 (by decide +kernel)
theorem lkRX12_117 : Cond.methodLink RX12 117 yX12_isFigure ∈ lw_tbl := tb_i 1464 (by decide +kernel)
theorem lkRX12_124 : Cond.methodLink RX12 124 yX12_isLetterByte ∈ lw_tbl := tb_i 1468 (by decide +kernel)
theorem lkRX12_133 : Cond.methodLink RX12 133 yX12_isSign ∈ lw_tbl := tb_i 1472 (by decide +kernel)
theorem lkRX12_136 : Cond.methodLink RX12 136 yX12_w2 ∈ lw_tbl := tb_i 1492 (by decide +kernel)
theorem lkRX12_140 : Cond.methodLink RX12 140 yX12_w3 ∈ lw_tbl := tb_i 1489 (by decide +kernel)
theorem lkRX12_144 : Cond.methodLink RX12 144 yX12_w4 ∈ lw_tbl := tb_i 1486 (by decide +kernel)
theorem lkRX12_148 : Cond.methodLink RX12 148 yX12_w5 ∈ lw_tbl := tb_i 1483 (by decide +kernel)
theorem lkRX12_158 : Cond.methodLink RX12 158 yX12_w6 ∈ lw_tbl := tb_i 1499 (by decide +kernel)
theorem lkRX12_168 : Cond.methodLink RX12 168 yX12_rank ∈ lw_tbl := tb_i 1549 (by decide +kernel)
theorem lkRX12_171 : Cond.methodLink RX12 171 yX12_emit ∈ lw_tbl := tb_i 1560 (by decide +kernel)
theorem lkRX12_178 : Cond.methodLink RX12 178 yX12_openAt ∈ lw_tbl := tb_i 1541 (by decide +kernel)
theorem dX12_copy_0 : decode cX12_copy 0 = .ok (.iconst 0, 1) := by decide +kernel
theorem dX12_copy_1 : decode cX12_copy 1 = .ok (.istore_n 2, 1) := by decide +kernel
theorem dX12_copy_2 : decode cX12_copy 2 = .ok (.iload_n 2, 1) := by decide +kernel
theorem dX12_copy_3 : decode cX12_copy 3 = .ok (.sipush 4371, 3) := by decide +kernel
theorem dX12_copy_6 : decode cX12_copy 6 = .ok (.if_icmp .ge 15, 3) := by decide +kernel
theorem dX12_copy_9 : decode cX12_copy 9 = .ok (.aload_n 1, 1) := by decide +kernel
theorem dX12_copy_10 : decode cX12_copy 10 = .ok (.iload_n 2, 1) := by decide +kernel
theorem dX12_copy_11 : decode cX12_copy 11 = .ok (.aload_n 0, 1) := by decide +kernel
theorem dX12_copy_12 : decode cX12_copy 12 = .ok (.iload_n 2, 1) := by decide +kernel
theorem dX12_copy_13 : decode cX12_copy 13 = .ok (.iaload, 1) := by decide +kernel
theorem dX12_copy_14 : decode cX12_copy 14 = .ok (.iastore, 1) := by decide +kernel
theorem dX12_copy_15 : decode cX12_copy 15 = .ok (.iinc 2 1, 3) := by decide +kernel
theorem dX12_copy_18 : decode cX12_copy 18 = .ok (.goto (-16), 3) := by decide +kernel
theorem dX12_copy_21 : decode cX12_copy 21 = .ok (.return_, 1) := by decide +kernel
theorem wi_RX12 : Cond.initialized RX12 ∈ lw_tbl := tb_i 13 (by decide +kernel)
theorem wn_RX12 : RX12 ≠ "java/lang/invoke/MethodHandle" ∧ RX12 ≠ "java/lang/invoke/VarHandle" := ⟨by decide +kernel, by decide +kernel⟩
theorem wp_RX12 : plainName RX12 = true := by decide +kernel
def m12_copy : pMT := (yX12_copy, cX12_copy, 3, none)
theorem mo12_copy : mOK m12_copy 2 := ⟨tb_i 1304 (by decide +kernel), wi_RX12, ⟨wn_RX12.1, wn_RX12.2, by decide +kernel⟩, by decide, plainFor_of_name wp_RX12⟩
theorem mv12_copy : mS m12_copy := (tb_i 1303 (by decide +kernel) : Cond.static yX12_copy ∈ lw_tbl)
def f12_copy_c2 (n : Nat) : Nat → (Nat → Nat → Int32) → Nat → Nat → Int32 → Option ((Nat → Nat → Int32))
  | 0, _, _, _, _ => none
  | m + 1, I, b0, b1, y2 => (if (4371 : Int32) ≤ y2 then some (I) else (if y2 < 0 ∨ 4371 ≤ y2.toNatClampNeg then none else (if y2 < 0 ∨ 4371 ≤ y2.toNatClampNeg then none else bl (sI I b1 y2.toNatClampNeg (I b0 y2.toNatClampNeg)) fun I4 => f12_copy_c2 n m I4 b0 b1 (y2 + 1))))
set_option maxHeartbeats 4000000 in
set_option maxRecDepth 20000 in
theorem o12_copy_c2 {g : pG} {Qx : Option Value → pW → Prop} {Z : pZ} {L : (Nat → Nat → Int64)} {O : (Nat → Nat → Option Nat)} {n : Nat} {res : (Nat → Nat → Int32)} (d : Nat) (hW : WT Z O) (hQ : Qx none (Z, res, L, O)) : ∀ (m : Nat) (I : (Nat → Nat → Int32)) (b0 : Nat) (b1 : Nat) (y2 : Int32), (Z[b0]? = some (13, 4371)) → (Z[b1]? = some (13, 4371)) → f12_copy_c2 n m I b0 b1 y2 = some res → Ok g (d + 2, RX12, cX12_copy, 3, false, 0, 0, Z.length, pSl Z) Qx 2 [(0, .ref b0), (1, .ref b1), (2, .int y2)] [] (Z, I, L, O) := by
  intro m
  induction m with
  | zero => intro I b0 b1 y2 hZ_b0 hZ_b1 h; rw [f12_copy_c2] at h; cases h
  | succ m ih =>
    intro I b0 b1 y2 hZ_b0 hZ_b1 h
    rw [f12_copy_c2] at h
    refine ok_iload_n dX12_copy_2 2 rfl ?_
    refine ok_sipush (v := 4371) dX12_copy_3 (by decide) ?_
    refine ok_icmp_ge (t := 21) dX12_copy_6 (by decide) (fun hc1 => ?_) (fun hc1 => ?_)
    · have h := (if_pos hc1).symm.trans h
      cases h
      exact ok_vret dX12_copy_21 hQ
    · have h := (if_neg hc1).symm.trans h
      refine ok_aload_n dX12_copy_9 1 rfl ?_
      refine ok_iload_n dX12_copy_10 2 rfl ?_
      refine ok_aload_n dX12_copy_11 0 rfl ?_
      refine ok_iload_n dX12_copy_12 2 rfl ?_
      obtain ⟨hg2, h⟩ := gd h
      refine ok_iald2 (N := y2.toNatClampNeg) dX12_copy_13 hZ_b0 hg2 rfl ?_
      obtain ⟨hg3, h⟩ := gd h
      obtain ⟨I4, eI4, h⟩ := blE h
      refine ok_iast3 dX12_copy_14 hZ_b1 hg3 rfl eI4 ?_
      refine ok_iinc (u := (y2 + 1)) (l' := [(2, .int (y2 + 1)), (0, .ref b0), (1, .ref b1)]) dX12_copy_15 2 rfl rfl (Nat.le_of_ble_eq_true rfl) rfl ?_
      refine ok_goto (t := 2) dX12_copy_18 (by decide) ?_
      refine ok_sub [1, 2, 0] rfl ?_
      exact ih I4 b0 b1 (y2 + 1) hZ_b0 hZ_b1 h
def f12_copy (n : Nat) (I : (Nat → Nat → Int32)) (a0 : Nat) (a1 : Nat) : Option ((Nat → Nat → Int32)) := f12_copy_c2 n n I a0 a1 (0 : Int32)
set_option maxHeartbeats 4000000 in
set_option maxRecDepth 20000 in
theorem o12_copy {g : pG} {Qx : Option Value → pW → Prop} {Z : pZ} {I : (Nat → Nat → Int32)} {L : (Nat → Nat → Int64)} {O : (Nat → Nat → Option Nat)} {n : Nat} {a0 : Nat} {a1 : Nat} {res : (Nat → Nat → Int32)} (d : Nat) (hW : WT Z O) (hZ0 : Z[a0]? = some (13, 4371)) (hZ1 : Z[a1]? = some (13, 4371)) (h : f12_copy n I a0 a1 = some res) (hQ : Qx none (Z, res, L, O)) : Ok g (d + 2, RX12, cX12_copy, 3, false, 0, 0, Z.length, pSl Z) Qx 0 [(0, .ref a0), (1, .ref a1)] [] (Z, I, L, O) := by
  unfold f12_copy at h
  refine ok_iconst (v := 0) dX12_copy_0 (by decide) ?_
  refine ok_istore_n (l' := [(2, .int 0), (0, .ref a0), (1, .ref a1)]) dX12_copy_1 rfl (Nat.le_of_ble_eq_true rfl) rfl ?_
  refine ok_sub [1, 2, 0] rfl ?_
  exact o12_copy_c2 d hW hQ  n I a0 a1 (0 : Int32) hZ0 hZ1 h
theorem k12_copy {g : pG} {Q : Option Value → pW → Prop} {Z : pZ} {I : (Nat → Nat → Int32)} {L : (Nat → Nat → Int64)} {O : (Nat → Nat → Option Nat)} {n : Nat} {a0 : Nat} {a1 : Nat} {res : (Nat → Nat → Int32)} (d : Nat) (hW : WT Z O) (hZ0 : Z[a0]? = some (13, 4371)) (hZ1 : Z[a1]? = some (13, 4371)) (h : f12_copy n I a0 a1 = some res) (hQ : Q none (Z, res, L, O)) : CT g (d + 2) m12_copy 0 0 [.ref a0, .ref a1] (Z, I, L, O) Q :=
  ct_of_ok (mt := m12_copy) (ini := false) mo12_copy.2.2.2.2 (fun h => by cases h) (Nat.le_of_ble_eq_true rfl) (o12_copy d hW hZ0 hZ1 h ⟨trivial, hQ, rfl, rfl⟩)
theorem dX12_isIn_0 : decode cX12_isIn 0 = .ok (.iload_n 0, 1) := by decide +kernel
theorem dX12_isIn_1 : decode cX12_isIn 1 = .ok (.iload_n 1, 1) := by decide +kernel
theorem dX12_isIn_2 : decode cX12_isIn 2 = .ok (.if_icmp .lt 12, 3) := by decide +kernel
theorem dX12_isIn_5 : decode cX12_isIn 5 = .ok (.iload_n 0, 1) := by decide +kernel
theorem dX12_isIn_6 : decode cX12_isIn 6 = .ok (.iload_n 2, 1) := by decide +kernel
theorem dX12_isIn_7 : decode cX12_isIn 7 = .ok (.if_icmp .gt 7, 3) := by decide +kernel
theorem dX12_isIn_10 : decode cX12_isIn 10 = .ok (.iconst 1, 1) := by decide +kernel
theorem dX12_isIn_11 : decode cX12_isIn 11 = .ok (.goto 4, 3) := by decide +kernel
theorem dX12_isIn_14 : decode cX12_isIn 14 = .ok (.iconst 0, 1) := by decide +kernel
theorem dX12_isIn_15 : decode cX12_isIn 15 = .ok (.ireturn, 1) := by decide +kernel
def m12_isIn : pMT := (yX12_isIn, cX12_isIn, 3, some .boolean)
theorem mo12_isIn : mOK m12_isIn 3 := ⟨tb_i 1415 (by decide +kernel), wi_RX12, ⟨wn_RX12.1, wn_RX12.2, by decide +kernel⟩, by decide, plainFor_of_name wp_RX12⟩
theorem mv12_isIn : mS m12_isIn := (tb_i 1414 (by decide +kernel) : Cond.static yX12_isIn ∈ lw_tbl)
def f12_isIn (x0 : Int32) (x1 : Int32) (x2 : Int32) : Option (Int32) := (if x0 < x1 then some ((0 : Int32)) else (if x2 < x0 then some ((0 : Int32)) else some ((1 : Int32))))
set_option maxHeartbeats 4000000 in
set_option maxRecDepth 20000 in
theorem o12_isIn {g : pG} {Qx : Option Value → pW → Prop} {Z : pZ} {I : (Nat → Nat → Int32)} {L : (Nat → Nat → Int64)} {O : (Nat → Nat → Option Nat)} {x0 : Int32} {x1 : Int32} {x2 : Int32} {res : Int32} (d : Nat) (hW : WT Z O) (h : f12_isIn x0 x1 x2 = some res) (hQ : (res = 0 ∨ res = 1) → Qx (some (.int res)) (Z, I, L, O)) : Ok g (d + 2, RX12, cX12_isIn, 3, false, 0, 0, Z.length, pSl Z) Qx 0 [(0, .int x0), (1, .int x1), (2, .int x2)] [] (Z, I, L, O) := by
  unfold f12_isIn at h
  refine ok_iload_n dX12_isIn_0 0 rfl ?_
  refine ok_iload_n dX12_isIn_1 1 rfl ?_
  refine ok_icmp_lt (t := 14) dX12_isIn_2 (by decide) (fun hc1 => ?_) (fun hc1 => ?_)
  · have h := (if_pos hc1).symm.trans h
    refine ok_iconst (v := 0) dX12_isIn_14 (by decide) ?_
    cases h
    exact ok_iret dX12_isIn_15 (hQ (Or.inl rfl))
  · have h := (if_neg hc1).symm.trans h
    refine ok_iload_n dX12_isIn_5 0 rfl ?_
    refine ok_iload_n dX12_isIn_6 2 rfl ?_
    refine ok_icmp_gt (t := 14) dX12_isIn_7 (by decide) (fun hc2 => ?_) (fun hc2 => ?_)
    · have h := (if_pos hc2).symm.trans h
      refine ok_iconst (v := 0) dX12_isIn_14 (by decide) ?_
      cases h
      exact ok_iret dX12_isIn_15 (hQ (Or.inl rfl))
    · have h := (if_neg hc2).symm.trans h
      refine ok_iconst (v := 1) dX12_isIn_10 (by decide) ?_
      refine ok_goto (t := 15) dX12_isIn_11 (by decide) ?_
      cases h
      exact ok_iret dX12_isIn_15 (hQ (Or.inr rfl))
theorem k12_isIn {g : pG} {Q : Option Value → pW → Prop} {Z : pZ} {I : (Nat → Nat → Int32)} {L : (Nat → Nat → Int64)} {O : (Nat → Nat → Option Nat)} {x0 : Int32} {x1 : Int32} {x2 : Int32} {res : Int32} (d : Nat) (hW : WT Z O) (h : f12_isIn x0 x1 x2 = some res) (hQ : Q (some (.int res)) (Z, I, L, O)) : CT g (d + 2) m12_isIn 0 0 [.int x0, .int x1, .int x2] (Z, I, L, O) Q :=
  ct_of_ok (mt := m12_isIn) (ini := false) mo12_isIn.2.2.2.2 (fun h => by cases h) (Nat.le_of_ble_eq_true rfl) (o12_isIn d hW  h (fun hb => ⟨hb, hQ, rfl, rfl⟩))
theorem dX12_cut_0 : decode cX12_cut 0 = .ok (.lload_n 0, 1) := by decide +kernel
theorem dX12_cut_1 : decode cX12_cut 1 = .ok (.iload_n 2, 1) := by decide +kernel
theorem dX12_cut_2 : decode cX12_cut 2 = .ok (.i2l, 1) := by decide +kernel
theorem dX12_cut_3 : decode cX12_cut 3 = .ok (.lcmp, 1) := by decide +kernel
theorem dX12_cut_4 : decode cX12_cut 4 = .ok (.ifCond .ge 7, 3) := by decide +kernel
theorem dX12_cut_7 : decode cX12_cut 7 = .ok (.iload_n 2, 1) := by decide +kernel
theorem dX12_cut_8 : decode cX12_cut 8 = .ok (.goto 16, 3) := by decide +kernel
theorem dX12_cut_11 : decode cX12_cut 11 = .ok (.lload_n 0, 1) := by decide +kernel
theorem dX12_cut_12 : decode cX12_cut 12 = .ok (.iload_n 3, 1) := by decide +kernel
theorem dX12_cut_13 : decode cX12_cut 13 = .ok (.i2l, 1) := by decide +kernel
theorem dX12_cut_14 : decode cX12_cut 14 = .ok (.lcmp, 1) := by decide +kernel
theorem dX12_cut_15 : decode cX12_cut 15 = .ok (.ifCond .le 7, 3) := by decide +kernel
theorem dX12_cut_18 : decode cX12_cut 18 = .ok (.iload_n 3, 1) := by decide +kernel
theorem dX12_cut_19 : decode cX12_cut 19 = .ok (.goto 5, 3) := by decide +kernel
theorem dX12_cut_22 : decode cX12_cut 22 = .ok (.lload_n 0, 1) := by decide +kernel
theorem dX12_cut_23 : decode cX12_cut 23 = .ok (.l2i, 1) := by decide +kernel
theorem dX12_cut_24 : decode cX12_cut 24 = .ok (.ireturn, 1) := by decide +kernel
def m12_cut : pMT := (yX12_cut, cX12_cut, 4, some .int)
theorem mo12_cut : mOK m12_cut 3 := ⟨tb_i 1688 (by decide +kernel), wi_RX12, ⟨wn_RX12.1, wn_RX12.2, by decide +kernel⟩, by decide, plainFor_of_name wp_RX12⟩
theorem mv12_cut : mS m12_cut := (tb_i 1687 (by decide +kernel) : Cond.static yX12_cut ∈ lw_tbl)
def f12_cut (x0 : Int64) (x2 : Int32) (x3 : Int32) : Option (Int32) := (if 0 ≤ (lg_cmp x0 x2.toInt64) then (if (lg_cmp x0 x3.toInt64) ≤ 0 then some (x0.toInt32) else some (x3)) else some (x2))
set_option maxHeartbeats 4000000 in
set_option maxRecDepth 20000 in
theorem o12_cut {g : pG} {Qx : Option Value → pW → Prop} {Z : pZ} {I : (Nat → Nat → Int32)} {L : (Nat → Nat → Int64)} {O : (Nat → Nat → Option Nat)} {x0 : Int64} {x2 : Int32} {x3 : Int32} {res : Int32} (d : Nat) (hW : WT Z O) (h : f12_cut x0 x2 x3 = some res) (hQ : Qx (some (.int res)) (Z, I, L, O)) : Ok g (d + 2, RX12, cX12_cut, 4, false, 0, 0, Z.length, pSl Z) Qx 0 [(0, .long x0), (2, .int x2), (3, .int x3)] [] (Z, I, L, O) := by
  unfold f12_cut at h
  refine ok_lload_n dX12_cut_0 0 rfl ?_
  refine ok_iload_n dX12_cut_1 1 rfl ?_
  refine ok_i2l dX12_cut_2 ?_
  refine ok_lcmp dX12_cut_3 ?_
  refine ok_if_ge (t := 11) dX12_cut_4 (by decide) (fun hc1 => ?_) (fun hc1 => ?_)
  · have h := (if_pos hc1).symm.trans h
    refine ok_lload_n dX12_cut_11 0 rfl ?_
    refine ok_iload_n dX12_cut_12 2 rfl ?_
    refine ok_i2l dX12_cut_13 ?_
    refine ok_lcmp dX12_cut_14 ?_
    refine ok_if_le (t := 22) dX12_cut_15 (by decide) (fun hc2 => ?_) (fun hc2 => ?_)
    · have h := (if_pos hc2).symm.trans h
      refine ok_lload_n dX12_cut_22 0 rfl ?_
      refine ok_l2i dX12_cut_23 ?_
      cases h
      exact ok_iret dX12_cut_24 hQ
    · have h := (if_neg hc2).symm.trans h
      refine ok_iload_n dX12_cut_18 2 rfl ?_
      refine ok_goto (t := 24) dX12_cut_19 (by decide) ?_
      cases h
      exact ok_iret dX12_cut_24 hQ
  · have h := (if_neg hc1).symm.trans h
    refine ok_iload_n dX12_cut_7 1 rfl ?_
    refine ok_goto (t := 24) dX12_cut_8 (by decide) ?_
    cases h
    exact ok_iret dX12_cut_24 hQ
theorem k12_cut {g : pG} {Q : Option Value → pW → Prop} {Z : pZ} {I : (Nat → Nat → Int32)} {L : (Nat → Nat → Int64)} {O : (Nat → Nat → Option Nat)} {x0 : Int64} {x2 : Int32} {x3 : Int32} {res : Int32} (d : Nat) (hW : WT Z O) (h : f12_cut x0 x2 x3 = some res) (hQ : Q (some (.int res)) (Z, I, L, O)) : CT g (d + 2) m12_cut 0 0 [.long x0, .int x2, .int x3] (Z, I, L, O) Q :=
  ct_of_ok (mt := m12_cut) (ini := false) mo12_cut.2.2.2.2 (fun h => by cases h) (Nat.le_of_ble_eq_true rfl) (o12_cut d hW  h ⟨trivial, hQ, rfl, rfl⟩)
theorem dX12_has_0 : decode cX12_has 0 = .ok (.iload_n 0, 1) := by decide +kernel
theorem dX12_has_1 : decode cX12_has 1 = .ok (.iload_n 1, 1) := by decide +kernel
theorem dX12_has_2 : decode cX12_has 2 = .ok (.ishr, 1) := by decide +kernel
theorem dX12_has_3 : decode cX12_has 3 = .ok (.iconst 1, 1) := by decide +kernel
theorem dX12_has_4 : decode cX12_has 4 = .ok (.iand, 1) := by decide +kernel
theorem dX12_has_5 : decode cX12_has 5 = .ok (.iconst 1, 1) := by decide +kernel
theorem dX12_has_6 : decode cX12_has 6 = .ok (.if_icmp .ne 7, 3) := by decide +kernel
theorem dX12_has_9 : decode cX12_has 9 = .ok (.iconst 1, 1) := by decide +kernel
theorem dX12_has_10 : decode cX12_has 10 = .ok (.goto 4, 3) := by decide +kernel
theorem dX12_has_13 : decode cX12_has 13 = .ok (.iconst 0, 1) := by decide +kernel
theorem dX12_has_14 : decode cX12_has 14 = .ok (.ireturn, 1) := by decide +kernel
def m12_has : pMT := (yX12_has, cX12_has, 2, some .boolean)
theorem mo12_has : mOK m12_has 2 := ⟨tb_i 1504 (by decide +kernel), wi_RX12, ⟨wn_RX12.1, wn_RX12.2, by decide +kernel⟩, by decide, plainFor_of_name wp_RX12⟩
theorem mv12_has : mS m12_has := (tb_i 1503 (by decide +kernel) : Cond.static yX12_has ∈ lw_tbl)
def f12_has (x0 : Int32) (x1 : Int32) : Option (Int32) := (if ((x0 >>> (x1 &&& 31)) &&& 1) = (1 : Int32) then some ((1 : Int32)) else some ((0 : Int32)))
set_option maxHeartbeats 4000000 in
set_option maxRecDepth 20000 in
theorem o12_has {g : pG} {Qx : Option Value → pW → Prop} {Z : pZ} {I : (Nat → Nat → Int32)} {L : (Nat → Nat → Int64)} {O : (Nat → Nat → Option Nat)} {x0 : Int32} {x1 : Int32} {res : Int32} (d : Nat) (hW : WT Z O) (h : f12_has x0 x1 = some res) (hQ : (res = 0 ∨ res = 1) → Qx (some (.int res)) (Z, I, L, O)) : Ok g (d + 2, RX12, cX12_has, 2, false, 0, 0, Z.length, pSl Z) Qx 0 [(0, .int x0), (1, .int x1)] [] (Z, I, L, O) := by
  unfold f12_has at h
  refine ok_iload_n dX12_has_0 0 rfl ?_
  refine ok_iload_n dX12_has_1 1 rfl ?_
  refine ok_ishr dX12_has_2 ?_
  refine ok_iconst (v := 1) dX12_has_3 (by decide) ?_
  refine ok_iand dX12_has_4 ?_
  refine ok_iconst (v := 1) dX12_has_5 (by decide) ?_
  refine ok_icmp_ne (t := 13) dX12_has_6 (by decide) (fun hc1 => ?_) (fun hc1 => ?_)
  · have h := (if_neg hc1).symm.trans h
    refine ok_iconst (v := 0) dX12_has_13 (by decide) ?_
    cases h
    exact ok_iret dX12_has_14 (hQ (Or.inl rfl))
  · have h := (if_pos hc1).symm.trans h
    refine ok_iconst (v := 1) dX12_has_9 (by decide) ?_
    refine ok_goto (t := 14) dX12_has_10 (by decide) ?_
    cases h
    exact ok_iret dX12_has_14 (hQ (Or.inr rfl))
theorem k12_has {g : pG} {Q : Option Value → pW → Prop} {Z : pZ} {I : (Nat → Nat → Int32)} {L : (Nat → Nat → Int64)} {O : (Nat → Nat → Option Nat)} {x0 : Int32} {x1 : Int32} {res : Int32} (d : Nat) (hW : WT Z O) (h : f12_has x0 x1 = some res) (hQ : Q (some (.int res)) (Z, I, L, O)) : CT g (d + 2) m12_has 0 0 [.int x0, .int x1] (Z, I, L, O) Q :=
  ct_of_ok (mt := m12_has) (ini := false) mo12_has.2.2.2.2 (fun h => by cases h) (Nat.le_of_ble_eq_true rfl) (o12_has d hW  h (fun hb => ⟨hb, hQ, rfl, rfl⟩))
theorem dX12_bits_0 : decode cX12_bits 0 = .ok (.iconst 0, 1) := by decide +kernel
theorem dX12_bits_1 : decode cX12_bits 1 = .ok (.istore_n 1, 1) := by decide +kernel
theorem dX12_bits_2 : decode cX12_bits 2 = .ok (.iload_n 0, 1) := by decide +kernel
theorem dX12_bits_3 : decode cX12_bits 3 = .ok (.istore_n 2, 1) := by decide +kernel
theorem dX12_bits_4 : decode cX12_bits 4 = .ok (.iload_n 2, 1) := by decide +kernel
theorem dX12_bits_5 : decode cX12_bits 5 = .ok (.ifCond .eq 15, 3) := by decide +kernel
theorem dX12_bits_8 : decode cX12_bits 8 = .ok (.iinc 1 1, 3) := by decide +kernel
theorem dX12_bits_11 : decode cX12_bits 11 = .ok (.iload_n 2, 1) := by decide +kernel
theorem dX12_bits_12 : decode cX12_bits 12 = .ok (.iload_n 2, 1) := by decide +kernel
theorem dX12_bits_13 : decode cX12_bits 13 = .ok (.iconst 1, 1) := by decide +kernel
theorem dX12_bits_14 : decode cX12_bits 14 = .ok (.isub, 1) := by decide +kernel
theorem dX12_bits_15 : decode cX12_bits 15 = .ok (.iand, 1) := by decide +kernel
theorem dX12_bits_16 : decode cX12_bits 16 = .ok (.istore_n 2, 1) := by decide +kernel
theorem dX12_bits_17 : decode cX12_bits 17 = .ok (.goto (-13), 3) := by decide +kernel
theorem dX12_bits_20 : decode cX12_bits 20 = .ok (.iload_n 1, 1) := by decide +kernel
theorem dX12_bits_21 : decode cX12_bits 21 = .ok (.ireturn, 1) := by decide +kernel
def m12_bits : pMT := (yX12_bits, cX12_bits, 3, some .int)
theorem mo12_bits : mOK m12_bits 1 := ⟨tb_i 1827 (by decide +kernel), wi_RX12, ⟨wn_RX12.1, wn_RX12.2, by decide +kernel⟩, by decide, plainFor_of_name wp_RX12⟩
theorem mv12_bits : mS m12_bits := (tb_i 1826 (by decide +kernel) : Cond.static yX12_bits ∈ lw_tbl)
def f12_bits_c4 (n : Nat) : Nat → Int32 → Int32 → Option (Int32)
  | 0, _, _ => none
  | m + 1, y1, y2 => (if y2 = 0 then some (y1) else f12_bits_c4 n m (y1 + 1) (y2 &&& (y2 - 1)))
set_option maxHeartbeats 4000000 in
set_option maxRecDepth 20000 in
theorem o12_bits_c4 {g : pG} {Qx : Option Value → pW → Prop} {Z : pZ} {I : (Nat → Nat → Int32)} {L : (Nat → Nat → Int64)} {O : (Nat → Nat → Option Nat)} {n : Nat} {res : Int32} (d : Nat) (hW : WT Z O) (hQ : Qx (some (.int res)) (Z, I, L, O)) : ∀ (m : Nat) (y1 : Int32) (y2 : Int32), f12_bits_c4 n m y1 y2 = some res → Ok g (d + 2, RX12, cX12_bits, 3, false, 0, 0, Z.length, pSl Z) Qx 4 [(1, .int y1), (2, .int y2)] [] (Z, I, L, O) := by
  intro m
  induction m with
  | zero => intro y1 y2 h; rw [f12_bits_c4] at h; cases h
  | succ m ih =>
    intro y1 y2 h
    rw [f12_bits_c4] at h
    refine ok_iload_n dX12_bits_4 1 rfl ?_
    refine ok_if_eq (t := 20) dX12_bits_5 (by decide) (fun hc1 => ?_) (fun hc1 => ?_)
    · have h := (if_pos hc1).symm.trans h
      refine ok_iload_n dX12_bits_20 0 rfl ?_
      cases h
      exact ok_iret dX12_bits_21 hQ
    · have h := (if_neg hc1).symm.trans h
      refine ok_iinc (u := (y1 + 1)) (l' := [(1, .int (y1 + 1)), (2, .int y2)]) dX12_bits_8 0 rfl rfl (Nat.le_of_ble_eq_true rfl) rfl ?_
      refine ok_iload_n dX12_bits_11 1 rfl ?_
      refine ok_iload_n dX12_bits_12 1 rfl ?_
      refine ok_iconst (v := 1) dX12_bits_13 (by decide) ?_
      refine ok_isub dX12_bits_14 ?_
      refine ok_iand dX12_bits_15 ?_
      refine ok_istore_n (l' := [(2, .int (y2 &&& (y2 - 1))), (1, .int (y1 + 1))]) dX12_bits_16 rfl (Nat.le_of_ble_eq_true rfl) rfl ?_
      refine ok_goto (t := 4) dX12_bits_17 (by decide) ?_
      refine ok_sub [1, 0] rfl ?_
      exact ih (y1 + 1) (y2 &&& (y2 - 1))  h
def f12_bits (n : Nat) (x0 : Int32) : Option (Int32) := f12_bits_c4 n n (0 : Int32) x0
set_option maxHeartbeats 4000000 in
set_option maxRecDepth 20000 in
theorem o12_bits {g : pG} {Qx : Option Value → pW → Prop} {Z : pZ} {I : (Nat → Nat → Int32)} {L : (Nat → Nat → Int64)} {O : (Nat → Nat → Option Nat)} {n : Nat} {x0 : Int32} {res : Int32} (d : Nat) (hW : WT Z O) (h : f12_bits n x0 = some res) (hQ : Qx (some (.int res)) (Z, I, L, O)) : Ok g (d + 2, RX12, cX12_bits, 3, false, 0, 0, Z.length, pSl Z) Qx 0 [(0, .int x0)] [] (Z, I, L, O) := by
  unfold f12_bits at h
  refine ok_iconst (v := 0) dX12_bits_0 (by decide) ?_
  refine ok_istore_n (l' := [(1, .int 0), (0, .int x0)]) dX12_bits_1 rfl (Nat.le_of_ble_eq_true rfl) rfl ?_
  refine ok_iload_n dX12_bits_2 1 rfl ?_
  refine ok_istore_n (l' := [(2, .int x0), (1, .int 0), (0, .int x0)]) dX12_bits_3 rfl (Nat.le_of_ble_eq_true rfl) rfl ?_
  refine ok_sub [1, 0] rfl ?_
  exact o12_bits_c4 d hW hQ  n (0 : Int32) x0  h
theorem k12_bits {g : pG} {Q : Option Value → pW → Prop} {Z : pZ} {I : (Nat → Nat → Int32)} {L : (Nat → Nat → Int64)} {O : (Nat → Nat → Option Nat)} {n : Nat} {x0 : Int32} {res : Int32} (d : Nat) (hW : WT Z O) (h : f12_bits n x0 = some res) (hQ : Q (some (.int res)) (Z, I, L, O)) : CT g (d + 2) m12_bits 0 0 [.int x0] (Z, I, L, O) Q :=
  ct_of_ok (mt := m12_bits) (ini := false) mo12_bits.2.2.2.2 (fun h => by cases h) (Nat.le_of_ble_eq_true rfl) (o12_bits d hW  h ⟨trivial, hQ, rfl, rfl⟩)
theorem dX12_isRoll_0 : decode cX12_isRoll 0 = .ok (.iload_n 1, 1) := by decide +kernel
theorem dX12_isRoll_1 : decode cX12_isRoll 1 = .ok (.iconst 0, 1) := by decide +kernel
theorem dX12_isRoll_2 : decode cX12_isRoll 2 = .ok (.aload_n 0, 1) := by decide +kernel
theorem dX12_isRoll_3 : decode cX12_isRoll 3 = .ok (.getfield 7, 3) := by decide +kernel
theorem dX12_isRoll_6 : decode cX12_isRoll 6 = .ok (.iconst 0, 1) := by decide +kernel
theorem dX12_isRoll_7 : decode cX12_isRoll 7 = .ok (.iaload, 1) := by decide +kernel
theorem dX12_isRoll_8 : decode cX12_isRoll 8 = .ok (.iconst 1, 1) := by decide +kernel
theorem dX12_isRoll_9 : decode cX12_isRoll 9 = .ok (.isub, 1) := by decide +kernel
theorem dX12_isRoll_10 : decode cX12_isRoll 10 = .ok (.invokestatic 75, 3) := by decide +kernel
theorem dX12_isRoll_13 : decode cX12_isRoll 13 = .ok (.ireturn, 1) := by decide +kernel
def m12_isRoll : pMT := (yX12_isRoll, cX12_isRoll, 2, some .boolean)
theorem mo12_isRoll : mOK m12_isRoll 1 := ⟨tb_i 1427 (by decide +kernel), wi_RX12, ⟨wn_RX12.1, wn_RX12.2, by decide +kernel⟩, by decide, plainFor_of_name wp_RX12⟩
theorem mv12_isRoll : mV m12_isRoll := ⟨tb_i 1426 (by decide +kernel), tb_p 59 (by decide +kernel)⟩
def f12_isRoll (I : (Nat → Nat → Int32)) (O : (Nat → Nat → Option Nat)) (a0 : Nat) (x1 : Int32) : Option (Int32) := (f12_isIn x1 (0 : Int32) ((I (rO O a0 0) 0) - 1)).bind fun r2 => some (r2)
set_option maxHeartbeats 4000000 in
set_option maxRecDepth 20000 in
theorem o12_isRoll {g : pG} {Qx : Option Value → pW → Prop} {Z : pZ} {I : (Nat → Nat → Int32)} {L : (Nat → Nat → Int64)} {O : (Nat → Nat → Option Nat)} {a0 : Nat} {x1 : Int32} {res : Int32} (d : Nat) (hW : WT Z O) (hZ0 : Z[a0]? = some (12, 34)) (h : f12_isRoll I O a0 x1 = some res) (hQ : (res = 0 ∨ res = 1) → Qx (some (.int res)) (Z, I, L, O)) : Ok g (d + 3, RX12, cX12_isRoll, 2, false, 0, 0, Z.length, pSl Z) Qx 0 [(0, .ref a0), (1, .int x1)] [] (Z, I, L, O) := by
  unfold f12_isRoll at h
  refine ok_iload_n dX12_isRoll_0 1 rfl ?_
  refine ok_iconst (v := 0) dX12_isRoll_1 (by decide) ?_
  refine ok_aload_n dX12_isRoll_2 0 rfl ?_
  have hT1 : Z[(rO O a0 0)]? = some (13, 4371) := (wt_f (ci := 12) (k := 0) hW hZ0 rfl).2
  refine ok_getR (ci := 12) (k := 0) dX12_isRoll_3 flRX12_7 rfl hW hZ0 (by decide) ?_
  refine ok_iconst (v := 0) dX12_isRoll_6 (by decide) ?_
  refine ok_iald2 (N := 0) dX12_isRoll_7 hT1 (by unfold vp_in; decide) (by decide) ?_
  refine ok_iconst (v := 1) dX12_isRoll_8 (by decide) ?_
  refine ok_isub dX12_isRoll_9 ?_
  obtain ⟨r2, hr3, h⟩ := bd h
  refine ok_callS (d := ((d + 0) + 2)) (mt := m12_isIn) (mc := 0) (ms := 0) (As := [.int x1, .int 0, .int ((I (rO O a0 0) 0) - 1)]) (r := []) dX12_isRoll_10 mo12_isIn mv12_isIn lkRX12_75 rfl rfl (Nat.le_of_ble_eq_true rfl) (by show _ + 1 ≤ d + _; omega) (Nat.le_refl _) (Nat.le_refl _) (pRt_mono ?_)
  refine k12_isIn (d + 0) hW  hr3 ?_
  intro hbr2
  show Ok g _ Qx 13 [(0, .ref a0), (1, .int x1)] [.int r2] (Z, I, L, O)
  cases h
  exact ok_iret dX12_isRoll_13 (hQ hbr2)
theorem k12_isRoll {g : pG} {Q : Option Value → pW → Prop} {Z : pZ} {I : (Nat → Nat → Int32)} {L : (Nat → Nat → Int64)} {O : (Nat → Nat → Option Nat)} {a0 : Nat} {x1 : Int32} {res : Int32} (d : Nat) (hW : WT Z O) (hZ0 : Z[a0]? = some (12, 34)) (h : f12_isRoll I O a0 x1 = some res) (hQ : Q (some (.int res)) (Z, I, L, O)) : CT g (d + 3) m12_isRoll 0 0 [.ref a0, .int x1] (Z, I, L, O) Q :=
  ct_of_ok (mt := m12_isRoll) (ini := false) mo12_isRoll.2.2.2.2 (fun h => by cases h) (Nat.le_of_ble_eq_true rfl) (o12_isRoll d hW hZ0 h (fun hb => ⟨hb, hQ, rfl, rfl⟩))
theorem dX12_isChild_0 : decode cX12_isChild 0 = .ok (.iload_n 1, 1) := by decide +kernel
theorem dX12_isChild_1 : decode cX12_isChild 1 = .ok (.iconst 0, 1) := by decide +kernel
theorem dX12_isChild_2 : decode cX12_isChild 2 = .ok (.aload_n 0, 1) := by decide +kernel
theorem dX12_isChild_3 : decode cX12_isChild 3 = .ok (.getfield 7, 3) := by decide +kernel
theorem dX12_isChild_6 : decode cX12_isChild 6 = .ok (.iconst 1, 1) := by decide +kernel
theorem dX12_isChild_7 : decode cX12_isChild 7 = .ok (.iaload, 1) := by decide +kernel
theorem dX12_isChild_8 : decode cX12_isChild 8 = .ok (.iconst 1, 1) := by decide +kernel
theorem dX12_isChild_9 : decode cX12_isChild 9 = .ok (.isub, 1) := by decide +kernel
theorem dX12_isChild_10 : decode cX12_isChild 10 = .ok (.invokestatic 75, 3) := by decide +kernel
theorem dX12_isChild_13 : decode cX12_isChild 13 = .ok (.ireturn, 1) := by decide +kernel
def m12_isChild : pMT := (yX12_isChild, cX12_isChild, 2, some .boolean)
theorem mo12_isChild : mOK m12_isChild 1 := ⟨tb_i 1607 (by decide +kernel), wi_RX12, ⟨wn_RX12.1, wn_RX12.2, by decide +kernel⟩, by decide, plainFor_of_name wp_RX12⟩
theorem mv12_isChild : mV m12_isChild := ⟨tb_i 1606 (by decide +kernel), tb_p 87 (by decide +kernel)⟩
def f12_isChild (I : (Nat → Nat → Int32)) (O : (Nat → Nat → Option Nat)) (a0 : Nat) (x1 : Int32) : Option (Int32) := (f12_isIn x1 (0 : Int32) ((I (rO O a0 0) 1) - 1)).bind fun r2 => some (r2)
set_option maxHeartbeats 4000000 in
set_option maxRecDepth 20000 in
theorem o12_isChild {g : pG} {Qx : Option Value → pW → Prop} {Z : pZ} {I : (Nat → Nat → Int32)} {L : (Nat → Nat → Int64)} {O : (Nat → Nat → Option Nat)} {a0 : Nat} {x1 : Int32} {res : Int32} (d : Nat) (hW : WT Z O) (hZ0 : Z[a0]? = some (12, 34)) (h : f12_isChild I O a0 x1 = some res) (hQ : (res = 0 ∨ res = 1) → Qx (some (.int res)) (Z, I, L, O)) : Ok g (d + 3, RX12, cX12_isChild, 2, false, 0, 0, Z.length, pSl Z) Qx 0 [(0, .ref a0), (1, .int x1)] [] (Z, I, L, O) := by
  unfold f12_isChild at h
  refine ok_iload_n dX12_isChild_0 1 rfl ?_
  refine ok_iconst (v := 0) dX12_isChild_1 (by decide) ?_
  refine ok_aload_n dX12_isChild_2 0 rfl ?_
  have hT1 : Z[(rO O a0 0)]? = some (13, 4371) := (wt_f (ci := 12) (k := 0) hW hZ0 rfl).2
  refine ok_getR (ci := 12) (k := 0) dX12_isChild_3 flRX12_7 rfl hW hZ0 (by decide) ?_
  refine ok_iconst (v := 1) dX12_isChild_6 (by decide) ?_
  refine ok_iald2 (N := 1) dX12_isChild_7 hT1 (by unfold vp_in; decide) (by decide) ?_
  refine ok_iconst (v := 1) dX12_isChild_8 (by decide) ?_
  refine ok_isub dX12_isChild_9 ?_
  obtain ⟨r2, hr3, h⟩ := bd h
  refine ok_callS (d := ((d + 0) + 2)) (mt := m12_isIn) (mc := 0) (ms := 0) (As := [.int x1, .int 0, .int ((I (rO O a0 0) 1) - 1)]) (r := []) dX12_isChild_10 mo12_isIn mv12_isIn lkRX12_75 rfl rfl (Nat.le_of_ble_eq_true rfl) (by show _ + 1 ≤ d + _; omega) (Nat.le_refl _) (Nat.le_refl _) (pRt_mono ?_)
  refine k12_isIn (d + 0) hW  hr3 ?_
  intro hbr2
  show Ok g _ Qx 13 [(0, .ref a0), (1, .int x1)] [.int r2] (Z, I, L, O)
  cases h
  exact ok_iret dX12_isChild_13 (hQ hbr2)
theorem k12_isChild {g : pG} {Q : Option Value → pW → Prop} {Z : pZ} {I : (Nat → Nat → Int32)} {L : (Nat → Nat → Int64)} {O : (Nat → Nat → Option Nat)} {a0 : Nat} {x1 : Int32} {res : Int32} (d : Nat) (hW : WT Z O) (hZ0 : Z[a0]? = some (12, 34)) (h : f12_isChild I O a0 x1 = some res) (hQ : Q (some (.int res)) (Z, I, L, O)) : CT g (d + 3) m12_isChild 0 0 [.ref a0, .int x1] (Z, I, L, O) Q :=
  ct_of_ok (mt := m12_isChild) (ini := false) mo12_isChild.2.2.2.2 (fun h => by cases h) (Nat.le_of_ble_eq_true rfl) (o12_isChild d hW hZ0 h (fun hb => ⟨hb, hQ, rfl, rfl⟩))
theorem dX12_isPlace_0 : decode cX12_isPlace 0 = .ok (.aload_n 0, 1) := by decide +kernel
theorem dX12_isPlace_1 : decode cX12_isPlace 1 = .ok (.iload_n 1, 1) := by decide +kernel
theorem dX12_isPlace_2 : decode cX12_isPlace 2 = .ok (.invokevirtual 79, 3) := by decide +kernel
theorem dX12_isPlace_5 : decode cX12_isPlace 5 = .ok (.ifCond .eq 26, 3) := by decide +kernel
theorem dX12_isPlace_8 : decode cX12_isPlace 8 = .ok (.iload_n 2, 1) := by decide +kernel
theorem dX12_isPlace_9 : decode cX12_isPlace 9 = .ok (.iconst 0, 1) := by decide +kernel
theorem dX12_isPlace_10 : decode cX12_isPlace 10 = .ok (.aload_n 0, 1) := by decide +kernel
theorem dX12_isPlace_11 : decode cX12_isPlace 11 = .ok (.getfield 7, 3) := by decide +kernel
theorem dX12_isPlace_14 : decode cX12_isPlace 14 = .ok (.bipush 114, 2) := by decide +kernel
theorem dX12_isPlace_16 : decode cX12_isPlace 16 = .ok (.iload_n 1, 1) := by decide +kernel
theorem dX12_isPlace_17 : decode cX12_isPlace 17 = .ok (.iadd, 1) := by decide +kernel
theorem dX12_isPlace_18 : decode cX12_isPlace 18 = .ok (.iaload, 1) := by decide +kernel
theorem dX12_isPlace_19 : decode cX12_isPlace 19 = .ok (.iconst 1, 1) := by decide +kernel
theorem dX12_isPlace_20 : decode cX12_isPlace 20 = .ok (.isub, 1) := by decide +kernel
theorem dX12_isPlace_21 : decode cX12_isPlace 21 = .ok (.invokestatic 75, 3) := by decide +kernel
theorem dX12_isPlace_24 : decode cX12_isPlace 24 = .ok (.ifCond .eq 7, 3) := by decide +kernel
theorem dX12_isPlace_27 : decode cX12_isPlace 27 = .ok (.iconst 1, 1) := by decide +kernel
theorem dX12_isPlace_28 : decode cX12_isPlace 28 = .ok (.goto 4, 3) := by decide +kernel
theorem dX12_isPlace_31 : decode cX12_isPlace 31 = .ok (.iconst 0, 1) := by decide +kernel
theorem dX12_isPlace_32 : decode cX12_isPlace 32 = .ok (.ireturn, 1) := by decide +kernel
def m12_isPlace : pMT := (yX12_isPlace, cX12_isPlace, 3, some .boolean)
theorem mo12_isPlace : mOK m12_isPlace 2 := ⟨tb_i 1423 (by decide +kernel), wi_RX12, ⟨wn_RX12.1, wn_RX12.2, by decide +kernel⟩, by decide, plainFor_of_name wp_RX12⟩
theorem mv12_isPlace : mV m12_isPlace := ⟨tb_i 1422 (by decide +kernel), tb_p 58 (by decide +kernel)⟩
def f12_isPlace (I : (Nat → Nat → Int32)) (O : (Nat → Nat → Option Nat)) (a0 : Nat) (x1 : Int32) (x2 : Int32) : Option (Int32) := (f12_isRoll I O a0 x1).bind fun r1 => (if r1 = 0 then some ((0 : Int32)) else (if ((114 : Int32) + x1) < 0 ∨ 4371 ≤ ((114 : Int32) + x1).toNatClampNeg then none else (f12_isIn x2 (0 : Int32) ((I (rO O a0 0) ((114 : Int32) + x1).toNatClampNeg) - 1)).bind fun r6 => (if r6 = 0 then some ((0 : Int32)) else some ((1 : Int32)))))
set_option maxHeartbeats 4000000 in
set_option maxRecDepth 20000 in
theorem o12_isPlace {g : pG} {Qx : Option Value → pW → Prop} {Z : pZ} {I : (Nat → Nat → Int32)} {L : (Nat → Nat → Int64)} {O : (Nat → Nat → Option Nat)} {a0 : Nat} {x1 : Int32} {x2 : Int32} {res : Int32} (d : Nat) (hW : WT Z O) (hZ0 : Z[a0]? = some (12, 34)) (h : f12_isPlace I O a0 x1 x2 = some res) (hQ : (res = 0 ∨ res = 1) → Qx (some (.int res)) (Z, I, L, O)) : Ok g (d + 4, RX12, cX12_isPlace, 3, false, 0, 0, Z.length, pSl Z) Qx 0 [(0, .ref a0), (1, .int x1), (2, .int x2)] [] (Z, I, L, O) := by
  unfold f12_isPlace at h
  refine ok_aload_n dX12_isPlace_0 0 rfl ?_
  refine ok_iload_n dX12_isPlace_1 1 rfl ?_
  obtain ⟨r1, hr2, h⟩ := bd h
  refine ok_callV (d := ((d + 0) + 3)) (mt := m12_isRoll) (mc := 0) (ms := 0) (As := [.int x1]) (r := []) dX12_isPlace_2 mo12_isRoll mv12_isRoll lkRX12_79 rfl hZ0 (q := (RX12, TX12, 34)) rfl rfl rfl (Nat.le_of_ble_eq_true rfl) (by show _ + 1 ≤ d + _; omega) (Nat.le_refl _) (Nat.le_refl _) (pRt_mono ?_)
  refine k12_isRoll (d + 0) hW hZ0 hr2 ?_
  intro hbr1
  show Ok g _ Qx 5 [(0, .ref a0), (1, .int x1), (2, .int x2)] [.int r1] (Z, I, L, O)
  refine ok_if_eq (t := 31) dX12_isPlace_5 (by decide) (fun hc3 => ?_) (fun hc3 => ?_)
  · have h := (if_pos hc3).symm.trans h
    refine ok_iconst (v := 0) dX12_isPlace_31 (by decide) ?_
    cases h
    exact ok_iret dX12_isPlace_32 (hQ (Or.inl rfl))
  · have h := (if_neg hc3).symm.trans h
    refine ok_iload_n dX12_isPlace_8 2 rfl ?_
    refine ok_iconst (v := 0) dX12_isPlace_9 (by decide) ?_
    refine ok_aload_n dX12_isPlace_10 0 rfl ?_
    have hT4 : Z[(rO O a0 0)]? = some (13, 4371) := (wt_f (ci := 12) (k := 0) hW hZ0 rfl).2
    refine ok_getR (ci := 12) (k := 0) dX12_isPlace_11 flRX12_7 rfl hW hZ0 (by decide) ?_
    refine ok_bipush (v := 114) dX12_isPlace_14 (by decide) ?_
    refine ok_iload_n dX12_isPlace_16 1 rfl ?_
    refine ok_iadd dX12_isPlace_17 ?_
    obtain ⟨hg5, h⟩ := gd h
    refine ok_iald2 (N := ((114 : Int32) + x1).toNatClampNeg) dX12_isPlace_18 hT4 hg5 rfl ?_
    refine ok_iconst (v := 1) dX12_isPlace_19 (by decide) ?_
    refine ok_isub dX12_isPlace_20 ?_
    obtain ⟨r6, hr7, h⟩ := bd h
    refine ok_callS (d := ((d + 1) + 2)) (mt := m12_isIn) (mc := 0) (ms := 0) (As := [.int x2, .int 0, .int ((I (rO O a0 0) ((114 : Int32) + x1).toNatClampNeg) - 1)]) (r := []) dX12_isPlace_21 mo12_isIn mv12_isIn lkRX12_75 rfl rfl (Nat.le_of_ble_eq_true rfl) (by show _ + 1 ≤ d + _; omega) (Nat.le_refl _) (Nat.le_refl _) (pRt_mono ?_)
    refine k12_isIn (d + 1) hW  hr7 ?_
    intro hbr6
    show Ok g _ Qx 24 [(0, .ref a0), (1, .int x1), (2, .int x2)] [.int r6] (Z, I, L, O)
    refine ok_if_eq (t := 31) dX12_isPlace_24 (by decide) (fun hc8 => ?_) (fun hc8 => ?_)
    · have h := (if_pos hc8).symm.trans h
      refine ok_iconst (v := 0) dX12_isPlace_31 (by decide) ?_
      cases h
      exact ok_iret dX12_isPlace_32 (hQ (Or.inl rfl))
    · have h := (if_neg hc8).symm.trans h
      refine ok_iconst (v := 1) dX12_isPlace_27 (by decide) ?_
      refine ok_goto (t := 32) dX12_isPlace_28 (by decide) ?_
      cases h
      exact ok_iret dX12_isPlace_32 (hQ (Or.inr rfl))
theorem k12_isPlace {g : pG} {Q : Option Value → pW → Prop} {Z : pZ} {I : (Nat → Nat → Int32)} {L : (Nat → Nat → Int64)} {O : (Nat → Nat → Option Nat)} {a0 : Nat} {x1 : Int32} {x2 : Int32} {res : Int32} (d : Nat) (hW : WT Z O) (hZ0 : Z[a0]? = some (12, 34)) (h : f12_isPlace I O a0 x1 x2 = some res) (hQ : Q (some (.int res)) (Z, I, L, O)) : CT g (d + 4) m12_isPlace 0 0 [.ref a0, .int x1, .int x2] (Z, I, L, O) Q :=
  ct_of_ok (mt := m12_isPlace) (ini := false) mo12_isPlace.2.2.2.2 (fun h => by cases h) (Nat.le_of_ble_eq_true rfl) (o12_isPlace d hW hZ0 h (fun hb => ⟨hb, hQ, rfl, rfl⟩))
theorem dX12_keyOf_0 : decode cX12_keyOf 0 = .ok (.aload_n 0, 1) := by decide +kernel
theorem dX12_keyOf_1 : decode cX12_keyOf 1 = .ok (.getfield 7, 3) := by decide +kernel
theorem dX12_keyOf_4 : decode cX12_keyOf 4 = .ok (.bipush 119, 2) := by decide +kernel
theorem dX12_keyOf_6 : decode cX12_keyOf 6 = .ok (.bipush 16, 2) := by decide +kernel
theorem dX12_keyOf_8 : decode cX12_keyOf 8 = .ok (.iload_n 1, 1) := by decide +kernel
theorem dX12_keyOf_9 : decode cX12_keyOf 9 = .ok (.imul, 1) := by decide +kernel
theorem dX12_keyOf_10 : decode cX12_keyOf 10 = .ok (.iadd, 1) := by decide +kernel
theorem dX12_keyOf_11 : decode cX12_keyOf 11 = .ok (.iload_n 2, 1) := by decide +kernel
theorem dX12_keyOf_12 : decode cX12_keyOf 12 = .ok (.iadd, 1) := by decide +kernel
theorem dX12_keyOf_13 : decode cX12_keyOf 13 = .ok (.iaload, 1) := by decide +kernel
theorem dX12_keyOf_14 : decode cX12_keyOf 14 = .ok (.ireturn, 1) := by decide +kernel
def m12_keyOf : pMT := (yX12_keyOf, cX12_keyOf, 3, some .int)
theorem mo12_keyOf : mOK m12_keyOf 2 := ⟨tb_i 1623 (by decide +kernel), wi_RX12, ⟨wn_RX12.1, wn_RX12.2, by decide +kernel⟩, by decide, plainFor_of_name wp_RX12⟩
theorem mv12_keyOf : mV m12_keyOf := ⟨tb_i 1622 (by decide +kernel), tb_p 91 (by decide +kernel)⟩
def f12_keyOf (I : (Nat → Nat → Int32)) (O : (Nat → Nat → Option Nat)) (a0 : Nat) (x1 : Int32) (x2 : Int32) : Option (Int32) := (if (((119 : Int32) + ((16 : Int32) * x1)) + x2) < 0 ∨ 4371 ≤ (((119 : Int32) + ((16 : Int32) * x1)) + x2).toNatClampNeg then none else some ((I (rO O a0 0) (((119 : Int32) + ((16 : Int32) * x1)) + x2).toNatClampNeg)))
set_option maxHeartbeats 4000000 in
set_option maxRecDepth 20000 in
theorem o12_keyOf {g : pG} {Qx : Option Value → pW → Prop} {Z : pZ} {I : (Nat → Nat → Int32)} {L : (Nat → Nat → Int64)} {O : (Nat → Nat → Option Nat)} {a0 : Nat} {x1 : Int32} {x2 : Int32} {res : Int32} (d : Nat) (hW : WT Z O) (hZ0 : Z[a0]? = some (12, 34)) (h : f12_keyOf I O a0 x1 x2 = some res) (hQ : Qx (some (.int res)) (Z, I, L, O)) : Ok g (d + 2, RX12, cX12_keyOf, 3, false, 0, 0, Z.length, pSl Z) Qx 0 [(0, .ref a0), (1, .int x1), (2, .int x2)] [] (Z, I, L, O) := by
  unfold f12_keyOf at h
  refine ok_aload_n dX12_keyOf_0 0 rfl ?_
  have hT1 : Z[(rO O a0 0)]? = some (13, 4371) := (wt_f (ci := 12) (k := 0) hW hZ0 rfl).2
  refine ok_getR (ci := 12) (k := 0) dX12_keyOf_1 flRX12_7 rfl hW hZ0 (by decide) ?_
  refine ok_bipush (v := 119) dX12_keyOf_4 (by decide) ?_
  refine ok_bipush (v := 16) dX12_keyOf_6 (by decide) ?_
  refine ok_iload_n dX12_keyOf_8 1 rfl ?_
  refine ok_imul dX12_keyOf_9 ?_
  refine ok_iadd dX12_keyOf_10 ?_
  refine ok_iload_n dX12_keyOf_11 2 rfl ?_
  refine ok_iadd dX12_keyOf_12 ?_
  obtain ⟨hg2, h⟩ := gd h
  refine ok_iald2 (N := (((119 : Int32) + ((16 : Int32) * x1)) + x2).toNatClampNeg) dX12_keyOf_13 hT1 hg2 rfl ?_
  cases h
  exact ok_iret dX12_keyOf_14 hQ
theorem k12_keyOf {g : pG} {Q : Option Value → pW → Prop} {Z : pZ} {I : (Nat → Nat → Int32)} {L : (Nat → Nat → Int64)} {O : (Nat → Nat → Option Nat)} {a0 : Nat} {x1 : Int32} {x2 : Int32} {res : Int32} (d : Nat) (hW : WT Z O) (hZ0 : Z[a0]? = some (12, 34)) (h : f12_keyOf I O a0 x1 x2 = some res) (hQ : Q (some (.int res)) (Z, I, L, O)) : CT g (d + 2) m12_keyOf 0 0 [.ref a0, .int x1, .int x2] (Z, I, L, O) Q :=
  ct_of_ok (mt := m12_keyOf) (ini := false) mo12_keyOf.2.2.2.2 (fun h => by cases h) (Nat.le_of_ble_eq_true rfl) (o12_keyOf d hW hZ0 h ⟨trivial, hQ, rfl, rfl⟩)
theorem dX12_wearOf_0 : decode cX12_wearOf 0 = .ok (.aload_n 0, 1) := by decide +kernel
theorem dX12_wearOf_1 : decode cX12_wearOf 1 = .ok (.getfield 7, 3) := by decide +kernel
theorem dX12_wearOf_4 : decode cX12_wearOf 4 = .ok (.bipush 10, 2) := by decide +kernel
theorem dX12_wearOf_6 : decode cX12_wearOf 6 = .ok (.bipush 16, 2) := by decide +kernel
theorem dX12_wearOf_8 : decode cX12_wearOf 8 = .ok (.iload_n 1, 1) := by decide +kernel
theorem dX12_wearOf_9 : decode cX12_wearOf 9 = .ok (.imul, 1) := by decide +kernel
theorem dX12_wearOf_10 : decode cX12_wearOf 10 = .ok (.iadd, 1) := by decide +kernel
theorem dX12_wearOf_11 : decode cX12_wearOf 11 = .ok (.iload_n 2, 1) := by decide +kernel
theorem dX12_wearOf_12 : decode cX12_wearOf 12 = .ok (.iadd, 1) := by decide +kernel
theorem dX12_wearOf_13 : decode cX12_wearOf 13 = .ok (.iaload, 1) := by decide +kernel
theorem dX12_wearOf_14 : decode cX12_wearOf 14 = .ok (.ireturn, 1) := by decide +kernel
def m12_wearOf : pMT := (yX12_wearOf, cX12_wearOf, 3, some .int)
theorem mo12_wearOf : mOK m12_wearOf 2 := ⟨tb_i 1631 (by decide +kernel), wi_RX12, ⟨wn_RX12.1, wn_RX12.2, by decide +kernel⟩, by decide, plainFor_of_name wp_RX12⟩
theorem mv12_wearOf : mV m12_wearOf := ⟨tb_i 1630 (by decide +kernel), tb_p 93 (by decide +kernel)⟩
def f12_wearOf (I : (Nat → Nat → Int32)) (O : (Nat → Nat → Option Nat)) (a0 : Nat) (x1 : Int32) (x2 : Int32) : Option (Int32) := (if (((10 : Int32) + ((16 : Int32) * x1)) + x2) < 0 ∨ 4371 ≤ (((10 : Int32) + ((16 : Int32) * x1)) + x2).toNatClampNeg then none else some ((I (rO O a0 0) (((10 : Int32) + ((16 : Int32) * x1)) + x2).toNatClampNeg)))
set_option maxHeartbeats 4000000 in
set_option maxRecDepth 20000 in
theorem o12_wearOf {g : pG} {Qx : Option Value → pW → Prop} {Z : pZ} {I : (Nat → Nat → Int32)} {L : (Nat → Nat → Int64)} {O : (Nat → Nat → Option Nat)} {a0 : Nat} {x1 : Int32} {x2 : Int32} {res : Int32} (d : Nat) (hW : WT Z O) (hZ0 : Z[a0]? = some (12, 34)) (h : f12_wearOf I O a0 x1 x2 = some res) (hQ : Qx (some (.int res)) (Z, I, L, O)) : Ok g (d + 2, RX12, cX12_wearOf, 3, false, 0, 0, Z.length, pSl Z) Qx 0 [(0, .ref a0), (1, .int x1), (2, .int x2)] [] (Z, I, L, O) := by
  unfold f12_wearOf at h
  refine ok_aload_n dX12_wearOf_0 0 rfl ?_
  have hT1 : Z[(rO O a0 0)]? = some (13, 4371) := (wt_f (ci := 12) (k := 0) hW hZ0 rfl).2
  refine ok_getR (ci := 12) (k := 0) dX12_wearOf_1 flRX12_7 rfl hW hZ0 (by decide) ?_
  refine ok_bipush (v := 10) dX12_wearOf_4 (by decide) ?_
  refine ok_bipush (v := 16) dX12_wearOf_6 (by decide) ?_
  refine ok_iload_n dX12_wearOf_8 1 rfl ?_
  refine ok_imul dX12_wearOf_9 ?_
  refine ok_iadd dX12_wearOf_10 ?_
  refine ok_iload_n dX12_wearOf_11 2 rfl ?_
  refine ok_iadd dX12_wearOf_12 ?_
  obtain ⟨hg2, h⟩ := gd h
  refine ok_iald2 (N := (((10 : Int32) + ((16 : Int32) * x1)) + x2).toNatClampNeg) dX12_wearOf_13 hT1 hg2 rfl ?_
  cases h
  exact ok_iret dX12_wearOf_14 hQ
theorem k12_wearOf {g : pG} {Q : Option Value → pW → Prop} {Z : pZ} {I : (Nat → Nat → Int32)} {L : (Nat → Nat → Int64)} {O : (Nat → Nat → Option Nat)} {a0 : Nat} {x1 : Int32} {x2 : Int32} {res : Int32} (d : Nat) (hW : WT Z O) (hZ0 : Z[a0]? = some (12, 34)) (h : f12_wearOf I O a0 x1 x2 = some res) (hQ : Q (some (.int res)) (Z, I, L, O)) : CT g (d + 2) m12_wearOf 0 0 [.ref a0, .int x1, .int x2] (Z, I, L, O) Q :=
  ct_of_ok (mt := m12_wearOf) (ini := false) mo12_wearOf.2.2.2.2 (fun h => by cases h) (Nat.le_of_ble_eq_true rfl) (o12_wearOf d hW hZ0 h ⟨trivial, hQ, rfl, rfl⟩)
theorem dX12_isTorn_0 : decode cX12_isTorn 0 = .ok (.aload_n 0, 1) := by decide +kernel
theorem dX12_isTorn_1 : decode cX12_isTorn 1 = .ok (.iload_n 1, 1) := by decide +kernel
theorem dX12_isTorn_2 : decode cX12_isTorn 2 = .ok (.iload_n 2, 1) := by decide +kernel
theorem dX12_isTorn_3 : decode cX12_isTorn 3 = .ok (.invokevirtual 83, 3) := by decide +kernel
theorem dX12_isTorn_6 : decode cX12_isTorn 6 = .ok (.bipush 9, 2) := by decide +kernel
theorem dX12_isTorn_8 : decode cX12_isTorn 8 = .ok (.if_icmp .ne 7, 3) := by decide +kernel
theorem dX12_isTorn_11 : decode cX12_isTorn 11 = .ok (.iconst 1, 1) := by decide +kernel
theorem dX12_isTorn_12 : decode cX12_isTorn 12 = .ok (.goto 4, 3) := by decide +kernel
theorem dX12_isTorn_15 : decode cX12_isTorn 15 = .ok (.iconst 0, 1) := by decide +kernel
theorem dX12_isTorn_16 : decode cX12_isTorn 16 = .ok (.ireturn, 1) := by decide +kernel
def m12_isTorn : pMT := (yX12_isTorn, cX12_isTorn, 3, some .boolean)
theorem mo12_isTorn : mOK m12_isTorn 2 := ⟨tb_i 1627 (by decide +kernel), wi_RX12, ⟨wn_RX12.1, wn_RX12.2, by decide +kernel⟩, by decide, plainFor_of_name wp_RX12⟩
theorem mv12_isTorn : mV m12_isTorn := ⟨tb_i 1626 (by decide +kernel), tb_p 92 (by decide +kernel)⟩
def f12_isTorn (I : (Nat → Nat → Int32)) (O : (Nat → Nat → Option Nat)) (a0 : Nat) (x1 : Int32) (x2 : Int32) : Option (Int32) := (f12_wearOf I O a0 x1 x2).bind fun r1 => (if r1 = (9 : Int32) then some ((1 : Int32)) else some ((0 : Int32)))
set_option maxHeartbeats 4000000 in
set_option maxRecDepth 20000 in
theorem o12_isTorn {g : pG} {Qx : Option Value → pW → Prop} {Z : pZ} {I : (Nat → Nat → Int32)} {L : (Nat → Nat → Int64)} {O : (Nat → Nat → Option Nat)} {a0 : Nat} {x1 : Int32} {x2 : Int32} {res : Int32} (d : Nat) (hW : WT Z O) (hZ0 : Z[a0]? = some (12, 34)) (h : f12_isTorn I O a0 x1 x2 = some res) (hQ : (res = 0 ∨ res = 1) → Qx (some (.int res)) (Z, I, L, O)) : Ok g (d + 3, RX12, cX12_isTorn, 3, false, 0, 0, Z.length, pSl Z) Qx 0 [(0, .ref a0), (1, .int x1), (2, .int x2)] [] (Z, I, L, O) := by
  unfold f12_isTorn at h
  refine ok_aload_n dX12_isTorn_0 0 rfl ?_
  refine ok_iload_n dX12_isTorn_1 1 rfl ?_
  refine ok_iload_n dX12_isTorn_2 2 rfl ?_
  obtain ⟨r1, hr2, h⟩ := bd h
  refine ok_callV (d := ((d + 0) + 2)) (mt := m12_wearOf) (mc := 0) (ms := 0) (As := [.int x1, .int x2]) (r := []) dX12_isTorn_3 mo12_wearOf mv12_wearOf lkRX12_83 rfl hZ0 (q := (RX12, TX12, 34)) rfl rfl rfl (Nat.le_of_ble_eq_true rfl) (by show _ + 1 ≤ d + _; omega) (Nat.le_refl _) (Nat.le_refl _) (pRt_mono ?_)
  refine k12_wearOf (d + 0) hW hZ0 hr2 ?_
  intro _
  show Ok g _ Qx 6 [(0, .ref a0), (1, .int x1), (2, .int x2)] [.int r1] (Z, I, L, O)
  refine ok_bipush (v := 9) dX12_isTorn_6 (by decide) ?_
  refine ok_icmp_ne (t := 15) dX12_isTorn_8 (by decide) (fun hc3 => ?_) (fun hc3 => ?_)
  · have h := (if_neg hc3).symm.trans h
    refine ok_iconst (v := 0) dX12_isTorn_15 (by decide) ?_
    cases h
    exact ok_iret dX12_isTorn_16 (hQ (Or.inl rfl))
  · have h := (if_pos hc3).symm.trans h
    refine ok_iconst (v := 1) dX12_isTorn_11 (by decide) ?_
    refine ok_goto (t := 16) dX12_isTorn_12 (by decide) ?_
    cases h
    exact ok_iret dX12_isTorn_16 (hQ (Or.inr rfl))
theorem k12_isTorn {g : pG} {Q : Option Value → pW → Prop} {Z : pZ} {I : (Nat → Nat → Int32)} {L : (Nat → Nat → Int64)} {O : (Nat → Nat → Option Nat)} {a0 : Nat} {x1 : Int32} {x2 : Int32} {res : Int32} (d : Nat) (hW : WT Z O) (hZ0 : Z[a0]? = some (12, 34)) (h : f12_isTorn I O a0 x1 x2 = some res) (hQ : Q (some (.int res)) (Z, I, L, O)) : CT g (d + 3) m12_isTorn 0 0 [.ref a0, .int x1, .int x2] (Z, I, L, O) Q :=
  ct_of_ok (mt := m12_isTorn) (ini := false) mo12_isTorn.2.2.2.2 (fun h => by cases h) (Nat.le_of_ble_eq_true rfl) (o12_isTorn d hW hZ0 h (fun hb => ⟨hb, hQ, rfl, rfl⟩))
theorem dX12_isHole_0 : decode cX12_isHole 0 = .ok (.aload_n 0, 1) := by decide +kernel
theorem dX12_isHole_1 : decode cX12_isHole 1 = .ok (.iload_n 1, 1) := by decide +kernel
theorem dX12_isHole_2 : decode cX12_isHole 2 = .ok (.iload_n 2, 1) := by decide +kernel
theorem dX12_isHole_3 : decode cX12_isHole 3 = .ok (.invokevirtual 87, 3) := by decide +kernel
theorem dX12_isHole_6 : decode cX12_isHole 6 = .ok (.ifCond .le 16, 3) := by decide +kernel
theorem dX12_isHole_9 : decode cX12_isHole 9 = .ok (.aload_n 0, 1) := by decide +kernel
theorem dX12_isHole_10 : decode cX12_isHole 10 = .ok (.iload_n 1, 1) := by decide +kernel
theorem dX12_isHole_11 : decode cX12_isHole 11 = .ok (.iload_n 2, 1) := by decide +kernel
theorem dX12_isHole_12 : decode cX12_isHole 12 = .ok (.invokevirtual 90, 3) := by decide +kernel
theorem dX12_isHole_15 : decode cX12_isHole 15 = .ok (.ifCond .ne 7, 3) := by decide +kernel
theorem dX12_isHole_18 : decode cX12_isHole 18 = .ok (.iconst 1, 1) := by decide +kernel
theorem dX12_isHole_19 : decode cX12_isHole 19 = .ok (.goto 4, 3) := by decide +kernel
theorem dX12_isHole_22 : decode cX12_isHole 22 = .ok (.iconst 0, 1) := by decide +kernel
theorem dX12_isHole_23 : decode cX12_isHole 23 = .ok (.ireturn, 1) := by decide +kernel
def m12_isHole : pMT := (yX12_isHole, cX12_isHole, 3, some .boolean)
theorem mo12_isHole : mOK m12_isHole 2 := ⟨tb_i 1619 (by decide +kernel), wi_RX12, ⟨wn_RX12.1, wn_RX12.2, by decide +kernel⟩, by decide, plainFor_of_name wp_RX12⟩
theorem mv12_isHole : mV m12_isHole := ⟨tb_i 1618 (by decide +kernel), tb_p 90 (by decide +kernel)⟩
def f12_isHole (I : (Nat → Nat → Int32)) (O : (Nat → Nat → Option Nat)) (a0 : Nat) (x1 : Int32) (x2 : Int32) : Option (Int32) := (f12_keyOf I O a0 x1 x2).bind fun r1 => (if r1 ≤ 0 then some ((0 : Int32)) else (f12_isTorn I O a0 x1 x2).bind fun r4 => (if r4 = 0 then some ((1 : Int32)) else some ((0 : Int32))))
set_option maxHeartbeats 4000000 in
set_option maxRecDepth 20000 in
theorem o12_isHole {g : pG} {Qx : Option Value → pW → Prop} {Z : pZ} {I : (Nat → Nat → Int32)} {L : (Nat → Nat → Int64)} {O : (Nat → Nat → Option Nat)} {a0 : Nat} {x1 : Int32} {x2 : Int32} {res : Int32} (d : Nat) (hW : WT Z O) (hZ0 : Z[a0]? = some (12, 34)) (h : f12_isHole I O a0 x1 x2 = some res) (hQ : (res = 0 ∨ res = 1) → Qx (some (.int res)) (Z, I, L, O)) : Ok g (d + 4, RX12, cX12_isHole, 3, false, 0, 0, Z.length, pSl Z) Qx 0 [(0, .ref a0), (1, .int x1), (2, .int x2)] [] (Z, I, L, O) := by
  unfold f12_isHole at h
  refine ok_aload_n dX12_isHole_0 0 rfl ?_
  refine ok_iload_n dX12_isHole_1 1 rfl ?_
  refine ok_iload_n dX12_isHole_2 2 rfl ?_
  obtain ⟨r1, hr2, h⟩ := bd h
  refine ok_callV (d := ((d + 1) + 2)) (mt := m12_keyOf) (mc := 0) (ms := 0) (As := [.int x1, .int x2]) (r := []) dX12_isHole_3 mo12_keyOf mv12_keyOf lkRX12_87 rfl hZ0 (q := (RX12, TX12, 34)) rfl rfl rfl (Nat.le_of_ble_eq_true rfl) (by show _ + 1 ≤ d + _; omega) (Nat.le_refl _) (Nat.le_refl _) (pRt_mono ?_)
  refine k12_keyOf (d + 1) hW hZ0 hr2 ?_
  intro _
  show Ok g _ Qx 6 [(0, .ref a0), (1, .int x1), (2, .int x2)] [.int r1] (Z, I, L, O)
  refine ok_if_le (t := 22) dX12_isHole_6 (by decide) (fun hc3 => ?_) (fun hc3 => ?_)
  · have h := (if_pos hc3).symm.trans h
    refine ok_iconst (v := 0) dX12_isHole_22 (by decide) ?_
    cases h
    exact ok_iret dX12_isHole_23 (hQ (Or.inl rfl))
  · have h := (if_neg hc3).symm.trans h
    refine ok_aload_n dX12_isHole_9 0 rfl ?_
    refine ok_iload_n dX12_isHole_10 1 rfl ?_
    refine ok_iload_n dX12_isHole_11 2 rfl ?_
    obtain ⟨r4, hr5, h⟩ := bd h
    refine ok_callV (d := ((d + 0) + 3)) (mt := m12_isTorn) (mc := 0) (ms := 0) (As := [.int x1, .int x2]) (r := []) dX12_isHole_12 mo12_isTorn mv12_isTorn lkRX12_90 rfl hZ0 (q := (RX12, TX12, 34)) rfl rfl rfl (Nat.le_of_ble_eq_true rfl) (by show _ + 1 ≤ d + _; omega) (Nat.le_refl _) (Nat.le_refl _) (pRt_mono ?_)
    refine k12_isTorn (d + 0) hW hZ0 hr5 ?_
    intro hbr4
    show Ok g _ Qx 15 [(0, .ref a0), (1, .int x1), (2, .int x2)] [.int r4] (Z, I, L, O)
    refine ok_if_ne (t := 22) dX12_isHole_15 (by decide) (fun hc6 => ?_) (fun hc6 => ?_)
    · have h := (if_neg hc6).symm.trans h
      refine ok_iconst (v := 0) dX12_isHole_22 (by decide) ?_
      cases h
      exact ok_iret dX12_isHole_23 (hQ (Or.inl rfl))
    · have h := (if_pos hc6).symm.trans h
      refine ok_iconst (v := 1) dX12_isHole_18 (by decide) ?_
      refine ok_goto (t := 23) dX12_isHole_19 (by decide) ?_
      cases h
      exact ok_iret dX12_isHole_23 (hQ (Or.inr rfl))
theorem k12_isHole {g : pG} {Q : Option Value → pW → Prop} {Z : pZ} {I : (Nat → Nat → Int32)} {L : (Nat → Nat → Int64)} {O : (Nat → Nat → Option Nat)} {a0 : Nat} {x1 : Int32} {x2 : Int32} {res : Int32} (d : Nat) (hW : WT Z O) (hZ0 : Z[a0]? = some (12, 34)) (h : f12_isHole I O a0 x1 x2 = some res) (hQ : Q (some (.int res)) (Z, I, L, O)) : CT g (d + 4) m12_isHole 0 0 [.ref a0, .int x1, .int x2] (Z, I, L, O) Q :=
  ct_of_ok (mt := m12_isHole) (ini := false) mo12_isHole.2.2.2.2 (fun h => by cases h) (Nat.le_of_ble_eq_true rfl) (o12_isHole d hW hZ0 h (fun hb => ⟨hb, hQ, rfl, rfl⟩))
theorem dX12_heardBy_0 : decode cX12_heardBy 0 = .ok (.aload_n 0, 1) := by decide +kernel
theorem dX12_heardBy_1 : decode cX12_heardBy 1 = .ok (.getfield 7, 3) := by decide +kernel
theorem dX12_heardBy_4 : decode cX12_heardBy 4 = .ok (.bipush 90, 2) := by decide +kernel
theorem dX12_heardBy_6 : decode cX12_heardBy 6 = .ok (.bipush 6, 2) := by decide +kernel
theorem dX12_heardBy_8 : decode cX12_heardBy 8 = .ok (.iload_n 1, 1) := by decide +kernel
theorem dX12_heardBy_9 : decode cX12_heardBy 9 = .ok (.imul, 1) := by decide +kernel
theorem dX12_heardBy_10 : decode cX12_heardBy 10 = .ok (.iadd, 1) := by decide +kernel
theorem dX12_heardBy_11 : decode cX12_heardBy 11 = .ok (.iload_n 2, 1) := by decide +kernel
theorem dX12_heardBy_12 : decode cX12_heardBy 12 = .ok (.iadd, 1) := by decide +kernel
theorem dX12_heardBy_13 : decode cX12_heardBy 13 = .ok (.iaload, 1) := by decide +kernel
theorem dX12_heardBy_14 : decode cX12_heardBy 14 = .ok (.ireturn, 1) := by decide +kernel
def m12_heardBy : pMT := (yX12_heardBy, cX12_heardBy, 3, some .int)
theorem mo12_heardBy : mOK m12_heardBy 2 := ⟨tb_i 1647 (by decide +kernel), wi_RX12, ⟨wn_RX12.1, wn_RX12.2, by decide +kernel⟩, by decide, plainFor_of_name wp_RX12⟩
theorem mv12_heardBy : mV m12_heardBy := ⟨tb_i 1646 (by decide +kernel), tb_p 97 (by decide +kernel)⟩
def f12_heardBy (I : (Nat → Nat → Int32)) (O : (Nat → Nat → Option Nat)) (a0 : Nat) (x1 : Int32) (x2 : Int32) : Option (Int32) := (if (((90 : Int32) + ((6 : Int32) * x1)) + x2) < 0 ∨ 4371 ≤ (((90 : Int32) + ((6 : Int32) * x1)) + x2).toNatClampNeg then none else some ((I (rO O a0 0) (((90 : Int32) + ((6 : Int32) * x1)) + x2).toNatClampNeg)))
set_option maxHeartbeats 4000000 in
set_option maxRecDepth 20000 in
theorem o12_heardBy {g : pG} {Qx : Option Value → pW → Prop} {Z : pZ} {I : (Nat → Nat → Int32)} {L : (Nat → Nat → Int64)} {O : (Nat → Nat → Option Nat)} {a0 : Nat} {x1 : Int32} {x2 : Int32} {res : Int32} (d : Nat) (hW : WT Z O) (hZ0 : Z[a0]? = some (12, 34)) (h : f12_heardBy I O a0 x1 x2 = some res) (hQ : Qx (some (.int res)) (Z, I, L, O)) : Ok g (d + 2, RX12, cX12_heardBy, 3, false, 0, 0, Z.length, pSl Z) Qx 0 [(0, .ref a0), (1, .int x1), (2, .int x2)] [] (Z, I, L, O) := by
  unfold f12_heardBy at h
  refine ok_aload_n dX12_heardBy_0 0 rfl ?_
  have hT1 : Z[(rO O a0 0)]? = some (13, 4371) := (wt_f (ci := 12) (k := 0) hW hZ0 rfl).2
  refine ok_getR (ci := 12) (k := 0) dX12_heardBy_1 flRX12_7 rfl hW hZ0 (by decide) ?_
  refine ok_bipush (v := 90) dX12_heardBy_4 (by decide) ?_
  refine ok_bipush (v := 6) dX12_heardBy_6 (by decide) ?_
  refine ok_iload_n dX12_heardBy_8 1 rfl ?_
  refine ok_imul dX12_heardBy_9 ?_
  refine ok_iadd dX12_heardBy_10 ?_
  refine ok_iload_n dX12_heardBy_11 2 rfl ?_
  refine ok_iadd dX12_heardBy_12 ?_
  obtain ⟨hg2, h⟩ := gd h
  refine ok_iald2 (N := (((90 : Int32) + ((6 : Int32) * x1)) + x2).toNatClampNeg) dX12_heardBy_13 hT1 hg2 rfl ?_
  cases h
  exact ok_iret dX12_heardBy_14 hQ
theorem k12_heardBy {g : pG} {Q : Option Value → pW → Prop} {Z : pZ} {I : (Nat → Nat → Int32)} {L : (Nat → Nat → Int64)} {O : (Nat → Nat → Option Nat)} {a0 : Nat} {x1 : Int32} {x2 : Int32} {res : Int32} (d : Nat) (hW : WT Z O) (hZ0 : Z[a0]? = some (12, 34)) (h : f12_heardBy I O a0 x1 x2 = some res) (hQ : Q (some (.int res)) (Z, I, L, O)) : CT g (d + 2) m12_heardBy 0 0 [.ref a0, .int x1, .int x2] (Z, I, L, O) Q :=
  ct_of_ok (mt := m12_heardBy) (ini := false) mo12_heardBy.2.2.2.2 (fun h => by cases h) (Nat.le_of_ble_eq_true rfl) (o12_heardBy d hW hZ0 h ⟨trivial, hQ, rfl, rfl⟩)
theorem dX12_roll_0 : decode cX12_roll 0 = .ok (.iload_n 1, 1) := by decide +kernel
theorem dX12_roll_1 : decode cX12_roll 1 = .ok (.iconst 1, 1) := by decide +kernel
theorem dX12_roll_2 : decode cX12_roll 2 = .ok (.bipush 16, 2) := by decide +kernel
theorem dX12_roll_4 : decode cX12_roll 4 = .ok (.invokestatic 75, 3) := by decide +kernel
theorem dX12_roll_7 : decode cX12_roll 7 = .ok (.ifCond .eq 13, 3) := by decide +kernel
theorem dX12_roll_10 : decode cX12_roll 10 = .ok (.aload_n 0, 1) := by decide +kernel
theorem dX12_roll_11 : decode cX12_roll 11 = .ok (.getfield 7, 3) := by decide +kernel
theorem dX12_roll_14 : decode cX12_roll 14 = .ok (.iconst 0, 1) := by decide +kernel
theorem dX12_roll_15 : decode cX12_roll 15 = .ok (.iaload, 1) := by decide +kernel
theorem dX12_roll_16 : decode cX12_roll 16 = .ok (.iconst 5, 1) := by decide +kernel
theorem dX12_roll_17 : decode cX12_roll 17 = .ok (.if_icmp .ne 5, 3) := by decide +kernel
theorem dX12_roll_20 : decode cX12_roll 20 = .ok (.iconst (-1), 1) := by decide +kernel
theorem dX12_roll_21 : decode cX12_roll 21 = .ok (.ireturn, 1) := by decide +kernel
theorem dX12_roll_22 : decode cX12_roll 22 = .ok (.aload_n 0, 1) := by decide +kernel
theorem dX12_roll_23 : decode cX12_roll 23 = .ok (.getfield 7, 3) := by decide +kernel
theorem dX12_roll_26 : decode cX12_roll 26 = .ok (.bipush 114, 2) := by decide +kernel
theorem dX12_roll_28 : decode cX12_roll 28 = .ok (.aload_n 0, 1) := by decide +kernel
theorem dX12_roll_29 : decode cX12_roll 29 = .ok (.getfield 7, 3) := by decide +kernel
theorem dX12_roll_32 : decode cX12_roll 32 = .ok (.iconst 0, 1) := by decide +kernel
theorem dX12_roll_33 : decode cX12_roll 33 = .ok (.iaload, 1) := by decide +kernel
theorem dX12_roll_34 : decode cX12_roll 34 = .ok (.iadd, 1) := by decide +kernel
theorem dX12_roll_35 : decode cX12_roll 35 = .ok (.iload_n 1, 1) := by decide +kernel
theorem dX12_roll_36 : decode cX12_roll 36 = .ok (.iastore, 1) := by decide +kernel
theorem dX12_roll_37 : decode cX12_roll 37 = .ok (.aload_n 0, 1) := by decide +kernel
theorem dX12_roll_38 : decode cX12_roll 38 = .ok (.getfield 7, 3) := by decide +kernel
theorem dX12_roll_41 : decode cX12_roll 41 = .ok (.iconst 0, 1) := by decide +kernel
theorem dX12_roll_42 : decode cX12_roll 42 = .ok (.dup2, 1) := by decide +kernel
theorem dX12_roll_43 : decode cX12_roll 43 = .ok (.iaload, 1) := by decide +kernel
theorem dX12_roll_44 : decode cX12_roll 44 = .ok (.iconst 1, 1) := by decide +kernel
theorem dX12_roll_45 : decode cX12_roll 45 = .ok (.iadd, 1) := by decide +kernel
theorem dX12_roll_46 : decode cX12_roll 46 = .ok (.iastore, 1) := by decide +kernel
theorem dX12_roll_47 : decode cX12_roll 47 = .ok (.aload_n 0, 1) := by decide +kernel
theorem dX12_roll_48 : decode cX12_roll 48 = .ok (.getfield 7, 3) := by decide +kernel
theorem dX12_roll_51 : decode cX12_roll 51 = .ok (.iconst 0, 1) := by decide +kernel
theorem dX12_roll_52 : decode cX12_roll 52 = .ok (.iaload, 1) := by decide +kernel
theorem dX12_roll_53 : decode cX12_roll 53 = .ok (.iconst 1, 1) := by decide +kernel
theorem dX12_roll_54 : decode cX12_roll 54 = .ok (.isub, 1) := by decide +kernel
theorem dX12_roll_55 : decode cX12_roll 55 = .ok (.ireturn, 1) := by decide +kernel
def m12_roll : pMT := (yX12_roll, cX12_roll, 2, some .int)
theorem mo12_roll : mOK m12_roll 1 := ⟨tb_i 1412 (by decide +kernel), wi_RX12, ⟨wn_RX12.1, wn_RX12.2, by decide +kernel⟩, by decide, plainFor_of_name wp_RX12⟩
theorem mv12_roll : mV m12_roll := ⟨tb_i 1410 (by decide +kernel), tb_i 1411 (by decide +kernel)⟩
def f12_roll (I : (Nat → Nat → Int32)) (O : (Nat → Nat → Option Nat)) (a0 : Nat) (x1 : Int32) : Option (Int32 × (Nat → Nat → Int32)) := (f12_isIn x1 (1 : Int32) (16 : Int32)).bind fun r1 => (if r1 = 0 then some (((-1) : Int32), I) else (if (I (rO O a0 0) 0) = (5 : Int32) then some (((-1) : Int32), I) else (if ((114 : Int32) + (I (rO O a0 0) 0)) < 0 ∨ 4371 ≤ ((114 : Int32) + (I (rO O a0 0) 0)).toNatClampNeg then none else bl (sI I (rO O a0 0) ((114 : Int32) + (I (rO O a0 0) 0)).toNatClampNeg x1) fun I7 => bl (sI I7 (rO O a0 0) 0 ((I7 (rO O a0 0) 0) + 1)) fun I8 => some (((I8 (rO O a0 0) 0) - 1), I8))))
set_option maxHeartbeats 4000000 in
set_option maxRecDepth 20000 in
theorem o12_roll {g : pG} {Qx : Option Value → pW → Prop} {Z : pZ} {I : (Nat → Nat → Int32)} {L : (Nat → Nat → Int64)} {O : (Nat → Nat → Option Nat)} {a0 : Nat} {x1 : Int32} {res : Int32 × (Nat → Nat → Int32)} (d : Nat) (hW : WT Z O) (hZ0 : Z[a0]? = some (12, 34)) (h : f12_roll I O a0 x1 = some res) (hQ : Qx (some (.int res.1)) (Z, res.2, L, O)) : Ok g (d + 3, RX12, cX12_roll, 2, false, 0, 0, Z.length, pSl Z) Qx 0 [(0, .ref a0), (1, .int x1)] [] (Z, I, L, O) := by
  unfold f12_roll at h
  refine ok_iload_n dX12_roll_0 1 rfl ?_
  refine ok_iconst (v := 1) dX12_roll_1 (by decide) ?_
  refine ok_bipush (v := 16) dX12_roll_2 (by decide) ?_
  obtain ⟨r1, hr2, h⟩ := bd h
  refine ok_callS (d := ((d + 0) + 2)) (mt := m12_isIn) (mc := 0) (ms := 0) (As := [.int x1, .int 1, .int 16]) (r := []) dX12_roll_4 mo12_isIn mv12_isIn lkRX12_75 rfl rfl (Nat.le_of_ble_eq_true rfl) (by show _ + 1 ≤ d + _; omega) (Nat.le_refl _) (Nat.le_refl _) (pRt_mono ?_)
  refine k12_isIn (d + 0) hW  hr2 ?_
  intro hbr1
  show Ok g _ Qx 7 [(0, .ref a0), (1, .int x1)] [.int r1] (Z, I, L, O)
  refine ok_if_eq (t := 20) dX12_roll_7 (by decide) (fun hc3 => ?_) (fun hc3 => ?_)
  · have h := (if_pos hc3).symm.trans h
    refine ok_iconst (v := (-1)) dX12_roll_20 (by decide) ?_
    cases h
    exact ok_iret dX12_roll_21 hQ
  · have h := (if_neg hc3).symm.trans h
    refine ok_aload_n dX12_roll_10 0 rfl ?_
    have hT4 : Z[(rO O a0 0)]? = some (13, 4371) := (wt_f (ci := 12) (k := 0) hW hZ0 rfl).2
    refine ok_getR (ci := 12) (k := 0) dX12_roll_11 flRX12_7 rfl hW hZ0 (by decide) ?_
    refine ok_iconst (v := 0) dX12_roll_14 (by decide) ?_
    refine ok_iald2 (N := 0) dX12_roll_15 hT4 (by unfold vp_in; decide) (by decide) ?_
    refine ok_iconst (v := 5) dX12_roll_16 (by decide) ?_
    refine ok_icmp_ne (t := 22) dX12_roll_17 (by decide) (fun hc5 => ?_) (fun hc5 => ?_)
    · have h := (if_neg hc5).symm.trans h
      refine ok_aload_n dX12_roll_22 0 rfl ?_
      refine ok_getR (ci := 12) (k := 0) dX12_roll_23 flRX12_7 rfl hW hZ0 (by decide) ?_
      refine ok_bipush (v := 114) dX12_roll_26 (by decide) ?_
      refine ok_aload_n dX12_roll_28 0 rfl ?_
      refine ok_getR (ci := 12) (k := 0) dX12_roll_29 flRX12_7 rfl hW hZ0 (by decide) ?_
      refine ok_iconst (v := 0) dX12_roll_32 (by decide) ?_
      refine ok_iald2 (N := 0) dX12_roll_33 hT4 (by unfold vp_in; decide) (by decide) ?_
      refine ok_iadd dX12_roll_34 ?_
      refine ok_iload_n dX12_roll_35 1 rfl ?_
      obtain ⟨hg6, h⟩ := gd h
      obtain ⟨I7, eI7, h⟩ := blE h
      refine ok_iast3 dX12_roll_36 hT4 hg6 rfl eI7 ?_
      refine ok_aload_n dX12_roll_37 0 rfl ?_
      refine ok_getR (ci := 12) (k := 0) dX12_roll_38 flRX12_7 rfl hW hZ0 (by decide) ?_
      refine ok_iconst (v := 0) dX12_roll_41 (by decide) ?_
      refine ok_dup2 dX12_roll_42 rfl rfl ?_
      refine ok_iald2 (N := 0) dX12_roll_43 hT4 (by unfold vp_in; decide) (by decide) ?_
      refine ok_iconst (v := 1) dX12_roll_44 (by decide) ?_
      refine ok_iadd dX12_roll_45 ?_
      obtain ⟨I8, eI8, h⟩ := blE h
      refine ok_iast3 dX12_roll_46 hT4 (by unfold vp_in; decide) (by decide) eI8 ?_
      refine ok_aload_n dX12_roll_47 0 rfl ?_
      refine ok_getR (ci := 12) (k := 0) dX12_roll_48 flRX12_7 rfl hW hZ0 (by decide) ?_
      refine ok_iconst (v := 0) dX12_roll_51 (by decide) ?_
      refine ok_iald2 (N := 0) dX12_roll_52 hT4 (by unfold vp_in; decide) (by decide) ?_
      refine ok_iconst (v := 1) dX12_roll_53 (by decide) ?_
      refine ok_isub dX12_roll_54 ?_
      cases h
      exact ok_iret dX12_roll_55 hQ
    · have h := (if_pos hc5).symm.trans h
      refine ok_iconst (v := (-1)) dX12_roll_20 (by decide) ?_
      cases h
      exact ok_iret dX12_roll_21 hQ
theorem k12_roll {g : pG} {Q : Option Value → pW → Prop} {Z : pZ} {I : (Nat → Nat → Int32)} {L : (Nat → Nat → Int64)} {O : (Nat → Nat → Option Nat)} {a0 : Nat} {x1 : Int32} {res : Int32 × (Nat → Nat → Int32)} (d : Nat) (hW : WT Z O) (hZ0 : Z[a0]? = some (12, 34)) (h : f12_roll I O a0 x1 = some res) (hQ : Q (some (.int res.1)) (Z, res.2, L, O)) : CT g (d + 3) m12_roll 0 0 [.ref a0, .int x1] (Z, I, L, O) Q :=
  ct_of_ok (mt := m12_roll) (ini := false) mo12_roll.2.2.2.2 (fun h => by cases h) (Nat.le_of_ble_eq_true rfl) (o12_roll d hW hZ0 h ⟨trivial, hQ, rfl, rfl⟩)
theorem dX12_hole_0 : decode cX12_hole 0 = .ok (.aload_n 0, 1) := by decide +kernel
theorem dX12_hole_1 : decode cX12_hole 1 = .ok (.iload_n 1, 1) := by decide +kernel
theorem dX12_hole_2 : decode cX12_hole 2 = .ok (.iload_n 2, 1) := by decide +kernel
theorem dX12_hole_3 : decode cX12_hole 3 = .ok (.invokevirtual 94, 3) := by decide +kernel
theorem dX12_hole_6 : decode cX12_hole 6 = .ok (.ifCond .eq 12, 3) := by decide +kernel
theorem dX12_hole_9 : decode cX12_hole 9 = .ok (.iload_n 3, 1) := by decide +kernel
theorem dX12_hole_10 : decode cX12_hole 10 = .ok (.iconst 0, 1) := by decide +kernel
theorem dX12_hole_11 : decode cX12_hole 11 = .ok (.iconst 5, 1) := by decide +kernel
theorem dX12_hole_12 : decode cX12_hole 12 = .ok (.invokestatic 75, 3) := by decide +kernel
theorem dX12_hole_15 : decode cX12_hole 15 = .ok (.ifCond .ne 5, 3) := by decide +kernel
theorem dX12_hole_18 : decode cX12_hole 18 = .ok (.iconst 0, 1) := by decide +kernel
theorem dX12_hole_19 : decode cX12_hole 19 = .ok (.ireturn, 1) := by decide +kernel
theorem dX12_hole_20 : decode cX12_hole 20 = .ok (.aload_n 0, 1) := by decide +kernel
theorem dX12_hole_21 : decode cX12_hole 21 = .ok (.getfield 7, 3) := by decide +kernel
theorem dX12_hole_24 : decode cX12_hole 24 = .ok (.bipush 119, 2) := by decide +kernel
theorem dX12_hole_26 : decode cX12_hole 26 = .ok (.bipush 16, 2) := by decide +kernel
theorem dX12_hole_28 : decode cX12_hole 28 = .ok (.iload_n 1, 1) := by decide +kernel
theorem dX12_hole_29 : decode cX12_hole 29 = .ok (.imul, 1) := by decide +kernel
theorem dX12_hole_30 : decode cX12_hole 30 = .ok (.iadd, 1) := by decide +kernel
theorem dX12_hole_31 : decode cX12_hole 31 = .ok (.iload_n 2, 1) := by decide +kernel
theorem dX12_hole_32 : decode cX12_hole 32 = .ok (.iadd, 1) := by decide +kernel
theorem dX12_hole_33 : decode cX12_hole 33 = .ok (.iload_n 3, 1) := by decide +kernel
theorem dX12_hole_34 : decode cX12_hole 34 = .ok (.iastore, 1) := by decide +kernel
theorem dX12_hole_35 : decode cX12_hole 35 = .ok (.iconst 1, 1) := by decide +kernel
theorem dX12_hole_36 : decode cX12_hole 36 = .ok (.ireturn, 1) := by decide +kernel
def m12_hole : pMT := (yX12_hole, cX12_hole, 4, some .boolean)
theorem mo12_hole : mOK m12_hole 3 := ⟨tb_i 1419 (by decide +kernel), wi_RX12, ⟨wn_RX12.1, wn_RX12.2, by decide +kernel⟩, by decide, plainFor_of_name wp_RX12⟩
theorem mv12_hole : mV m12_hole := ⟨tb_i 1417 (by decide +kernel), tb_i 1418 (by decide +kernel)⟩
def f12_hole (I : (Nat → Nat → Int32)) (O : (Nat → Nat → Option Nat)) (a0 : Nat) (x1 : Int32) (x2 : Int32) (x3 : Int32) : Option (Int32 × (Nat → Nat → Int32)) := (f12_isPlace I O a0 x1 x2).bind fun r1 => (if r1 = 0 then some ((0 : Int32), I) else (f12_isIn x3 (0 : Int32) (5 : Int32)).bind fun r4 => (if r4 = 0 then some ((0 : Int32), I) else (if (((119 : Int32) + ((16 : Int32) * x1)) + x2) < 0 ∨ 4371 ≤ (((119 : Int32) + ((16 : Int32) * x1)) + x2).toNatClampNeg then none else bl (sI I (rO O a0 0) (((119 : Int32) + ((16 : Int32) * x1)) + x2).toNatClampNeg x3) fun I9 => some ((1 : Int32), I9))))
set_option maxHeartbeats 4000000 in
set_option maxRecDepth 20000 in
theorem o12_hole {g : pG} {Qx : Option Value → pW → Prop} {Z : pZ} {I : (Nat → Nat → Int32)} {L : (Nat → Nat → Int64)} {O : (Nat → Nat → Option Nat)} {a0 : Nat} {x1 : Int32} {x2 : Int32} {x3 : Int32} {res : Int32 × (Nat → Nat → Int32)} (d : Nat) (hW : WT Z O) (hZ0 : Z[a0]? = some (12, 34)) (h : f12_hole I O a0 x1 x2 x3 = some res) (hQ : (res.1 = 0 ∨ res.1 = 1) → Qx (some (.int res.1)) (Z, res.2, L, O)) : Ok g (d + 5, RX12, cX12_hole, 4, false, 0, 0, Z.length, pSl Z) Qx 0 [(0, .ref a0), (1, .int x1), (2, .int x2), (3, .int x3)] [] (Z, I, L, O) := by
  unfold f12_hole at h
  refine ok_aload_n dX12_hole_0 0 rfl ?_
  refine ok_iload_n dX12_hole_1 1 rfl ?_
  refine ok_iload_n dX12_hole_2 2 rfl ?_
  obtain ⟨r1, hr2, h⟩ := bd h
  refine ok_callV (d := ((d + 0) + 4)) (mt := m12_isPlace) (mc := 0) (ms := 0) (As := [.int x1, .int x2]) (r := []) dX12_hole_3 mo12_isPlace mv12_isPlace lkRX12_94 rfl hZ0 (q := (RX12, TX12, 34)) rfl rfl rfl (Nat.le_of_ble_eq_true rfl) (by show _ + 1 ≤ d + _; omega) (Nat.le_refl _) (Nat.le_refl _) (pRt_mono ?_)
  refine k12_isPlace (d + 0) hW hZ0 hr2 ?_
  intro hbr1
  show Ok g _ Qx 6 [(0, .ref a0), (1, .int x1), (2, .int x2), (3, .int x3)] [.int r1] (Z, I, L, O)
  refine ok_if_eq (t := 18) dX12_hole_6 (by decide) (fun hc3 => ?_) (fun hc3 => ?_)
  · have h := (if_pos hc3).symm.trans h
    refine ok_iconst (v := 0) dX12_hole_18 (by decide) ?_
    cases h
    exact ok_iret dX12_hole_19 (hQ (Or.inl rfl))
  · have h := (if_neg hc3).symm.trans h
    refine ok_iload_n dX12_hole_9 3 rfl ?_
    refine ok_iconst (v := 0) dX12_hole_10 (by decide) ?_
    refine ok_iconst (v := 5) dX12_hole_11 (by decide) ?_
    obtain ⟨r4, hr5, h⟩ := bd h
    refine ok_callS (d := ((d + 2) + 2)) (mt := m12_isIn) (mc := 0) (ms := 0) (As := [.int x3, .int 0, .int 5]) (r := []) dX12_hole_12 mo12_isIn mv12_isIn lkRX12_75 rfl rfl (Nat.le_of_ble_eq_true rfl) (by show _ + 1 ≤ d + _; omega) (Nat.le_refl _) (Nat.le_refl _) (pRt_mono ?_)
    refine k12_isIn (d + 2) hW  hr5 ?_
    intro hbr4
    show Ok g _ Qx 15 [(0, .ref a0), (1, .int x1), (2, .int x2), (3, .int x3)] [.int r4] (Z, I, L, O)
    refine ok_if_ne (t := 20) dX12_hole_15 (by decide) (fun hc6 => ?_) (fun hc6 => ?_)
    · have h := (if_neg hc6).symm.trans h
      refine ok_aload_n dX12_hole_20 0 rfl ?_
      have hT7 : Z[(rO O a0 0)]? = some (13, 4371) := (wt_f (ci := 12) (k := 0) hW hZ0 rfl).2
      refine ok_getR (ci := 12) (k := 0) dX12_hole_21 flRX12_7 rfl hW hZ0 (by decide) ?_
      refine ok_bipush (v := 119) dX12_hole_24 (by decide) ?_
      refine ok_bipush (v := 16) dX12_hole_26 (by decide) ?_
      refine ok_iload_n dX12_hole_28 1 rfl ?_
      refine ok_imul dX12_hole_29 ?_
      refine ok_iadd dX12_hole_30 ?_
      refine ok_iload_n dX12_hole_31 2 rfl ?_
      refine ok_iadd dX12_hole_32 ?_
      refine ok_iload_n dX12_hole_33 3 rfl ?_
      obtain ⟨hg8, h⟩ := gd h
      obtain ⟨I9, eI9, h⟩ := blE h
      refine ok_iast3 dX12_hole_34 hT7 hg8 rfl eI9 ?_
      refine ok_iconst (v := 1) dX12_hole_35 (by decide) ?_
      cases h
      exact ok_iret dX12_hole_36 (hQ (Or.inr rfl))
    · have h := (if_pos hc6).symm.trans h
      refine ok_iconst (v := 0) dX12_hole_18 (by decide) ?_
      cases h
      exact ok_iret dX12_hole_19 (hQ (Or.inl rfl))
theorem k12_hole {g : pG} {Q : Option Value → pW → Prop} {Z : pZ} {I : (Nat → Nat → Int32)} {L : (Nat → Nat → Int64)} {O : (Nat → Nat → Option Nat)} {a0 : Nat} {x1 : Int32} {x2 : Int32} {x3 : Int32} {res : Int32 × (Nat → Nat → Int32)} (d : Nat) (hW : WT Z O) (hZ0 : Z[a0]? = some (12, 34)) (h : f12_hole I O a0 x1 x2 x3 = some res) (hQ : Q (some (.int res.1)) (Z, res.2, L, O)) : CT g (d + 5) m12_hole 0 0 [.ref a0, .int x1, .int x2, .int x3] (Z, I, L, O) Q :=
  ct_of_ok (mt := m12_hole) (ini := false) mo12_hole.2.2.2.2 (fun h => by cases h) (Nat.le_of_ble_eq_true rfl) (o12_hole d hW hZ0 h (fun hb => ⟨hb, hQ, rfl, rfl⟩))
theorem dX12_worn_0 : decode cX12_worn 0 = .ok (.aload_n 0, 1) := by decide +kernel
theorem dX12_worn_1 : decode cX12_worn 1 = .ok (.iload_n 1, 1) := by decide +kernel
theorem dX12_worn_2 : decode cX12_worn 2 = .ok (.iload_n 2, 1) := by decide +kernel
theorem dX12_worn_3 : decode cX12_worn 3 = .ok (.invokevirtual 94, 3) := by decide +kernel
theorem dX12_worn_6 : decode cX12_worn 6 = .ok (.ifCond .eq 13, 3) := by decide +kernel
theorem dX12_worn_9 : decode cX12_worn 9 = .ok (.iload_n 3, 1) := by decide +kernel
theorem dX12_worn_10 : decode cX12_worn 10 = .ok (.iconst 0, 1) := by decide +kernel
theorem dX12_worn_11 : decode cX12_worn 11 = .ok (.bipush 9, 2) := by decide +kernel
theorem dX12_worn_13 : decode cX12_worn 13 = .ok (.invokestatic 75, 3) := by decide +kernel
theorem dX12_worn_16 : decode cX12_worn 16 = .ok (.ifCond .ne 5, 3) := by decide +kernel
theorem dX12_worn_19 : decode cX12_worn 19 = .ok (.iconst 0, 1) := by decide +kernel
theorem dX12_worn_20 : decode cX12_worn 20 = .ok (.ireturn, 1) := by decide +kernel
theorem dX12_worn_21 : decode cX12_worn 21 = .ok (.bipush 10, 2) := by decide +kernel
theorem dX12_worn_23 : decode cX12_worn 23 = .ok (.bipush 16, 2) := by decide +kernel
theorem dX12_worn_25 : decode cX12_worn 25 = .ok (.iload_n 1, 1) := by decide +kernel
theorem dX12_worn_26 : decode cX12_worn 26 = .ok (.imul, 1) := by decide +kernel
theorem dX12_worn_27 : decode cX12_worn 27 = .ok (.iadd, 1) := by decide +kernel
theorem dX12_worn_28 : decode cX12_worn 28 = .ok (.iload_n 2, 1) := by decide +kernel
theorem dX12_worn_29 : decode cX12_worn 29 = .ok (.iadd, 1) := by decide +kernel
theorem dX12_worn_30 : decode cX12_worn 30 = .ok (.istore 4, 2) := by decide +kernel
theorem dX12_worn_32 : decode cX12_worn 32 = .ok (.aload_n 0, 1) := by decide +kernel
theorem dX12_worn_33 : decode cX12_worn 33 = .ok (.getfield 7, 3) := by decide +kernel
theorem dX12_worn_36 : decode cX12_worn 36 = .ok (.iload 4, 2) := by decide +kernel
theorem dX12_worn_38 : decode cX12_worn 38 = .ok (.iload_n 3, 1) := by decide +kernel
theorem dX12_worn_39 : decode cX12_worn 39 = .ok (.iastore, 1) := by decide +kernel
theorem dX12_worn_40 : decode cX12_worn 40 = .ok (.iconst 0, 1) := by decide +kernel
theorem dX12_worn_41 : decode cX12_worn 41 = .ok (.istore 5, 2) := by decide +kernel
theorem dX12_worn_43 : decode cX12_worn 43 = .ok (.iload 5, 2) := by decide +kernel
theorem dX12_worn_45 : decode cX12_worn 45 = .ok (.aload_n 0, 1) := by decide +kernel
theorem dX12_worn_46 : decode cX12_worn 46 = .ok (.getfield 7, 3) := by decide +kernel
theorem dX12_worn_49 : decode cX12_worn 49 = .ok (.iconst 4, 1) := by decide +kernel
theorem dX12_worn_50 : decode cX12_worn 50 = .ok (.iaload, 1) := by decide +kernel
theorem dX12_worn_51 : decode cX12_worn 51 = .ok (.if_icmp .ge 31, 3) := by decide +kernel
theorem dX12_worn_54 : decode cX12_worn 54 = .ok (.aload_n 0, 1) := by decide +kernel
theorem dX12_worn_55 : decode cX12_worn 55 = .ok (.getfield 7, 3) := by decide +kernel
theorem dX12_worn_58 : decode cX12_worn 58 = .ok (.sipush 231, 3) := by decide +kernel
theorem dX12_worn_61 : decode cX12_worn 61 = .ok (.sipush 137, 3) := by decide +kernel
theorem dX12_worn_64 : decode cX12_worn 64 = .ok (.iload 5, 2) := by decide +kernel
theorem dX12_worn_66 : decode cX12_worn 66 = .ok (.imul, 1) := by decide +kernel
theorem dX12_worn_67 : decode cX12_worn 67 = .ok (.iadd, 1) := by decide +kernel
theorem dX12_worn_68 : decode cX12_worn 68 = .ok (.iload 4, 2) := by decide +kernel
theorem dX12_worn_70 : decode cX12_worn 70 = .ok (.iadd, 1) := by decide +kernel
theorem dX12_worn_71 : decode cX12_worn 71 = .ok (.bipush 7, 2) := by decide +kernel
theorem dX12_worn_73 : decode cX12_worn 73 = .ok (.isub, 1) := by decide +kernel
theorem dX12_worn_74 : decode cX12_worn 74 = .ok (.iload_n 3, 1) := by decide +kernel
theorem dX12_worn_75 : decode cX12_worn 75 = .ok (.iastore, 1) := by decide +kernel
theorem dX12_worn_76 : decode cX12_worn 76 = .ok (.iinc 5 1, 3) := by decide +kernel
theorem dX12_worn_79 : decode cX12_worn 79 = .ok (.goto (-36), 3) := by decide +kernel
theorem dX12_worn_82 : decode cX12_worn 82 = .ok (.iconst 1, 1) := by decide +kernel
theorem dX12_worn_83 : decode cX12_worn 83 = .ok (.ireturn, 1) := by decide +kernel
def m12_worn : pMT := (yX12_worn, cX12_worn, 6, some .boolean)
theorem mo12_worn : mOK m12_worn 3 := ⟨tb_i 1431 (by decide +kernel), wi_RX12, ⟨wn_RX12.1, wn_RX12.2, by decide +kernel⟩, by decide, plainFor_of_name wp_RX12⟩
theorem mv12_worn : mV m12_worn := ⟨tb_i 1429 (by decide +kernel), tb_i 1430 (by decide +kernel)⟩
def f12_worn_c43 (n : Nat) (O : (Nat → Nat → Option Nat)) : Nat → (Nat → Nat → Int32) → Nat → Int32 → Int32 → Int32 → Option (Int32 × (Nat → Nat → Int32))
  | 0, _, _, _, _, _ => none
  | m + 1, I, b0, y3, y4, y5 => (if (I (rO O b0 0) 4) ≤ y5 then some ((1 : Int32), I) else (if ((((231 : Int32) + ((137 : Int32) * y5)) + y4) - 7) < 0 ∨ 4371 ≤ ((((231 : Int32) + ((137 : Int32) * y5)) + y4) - 7).toNatClampNeg then none else bl (sI I (rO O b0 0) ((((231 : Int32) + ((137 : Int32) * y5)) + y4) - 7).toNatClampNeg y3) fun I4 => f12_worn_c43 n O m I4 b0 y3 y4 (y5 + 1)))
set_option maxHeartbeats 4000000 in
set_option maxRecDepth 20000 in
theorem o12_worn_c43 {g : pG} {Qx : Option Value → pW → Prop} {Z : pZ} {L : (Nat → Nat → Int64)} {O : (Nat → Nat → Option Nat)} {n : Nat} {res : Int32 × (Nat → Nat → Int32)} (d : Nat) (hW : WT Z O) (hQ : (res.1 = 0 ∨ res.1 = 1) → Qx (some (.int res.1)) (Z, res.2, L, O)) : ∀ (m : Nat) (I : (Nat → Nat → Int32)) (b0 : Nat) (y3 : Int32) (y4 : Int32) (y5 : Int32), (Z[b0]? = some (12, 34)) → f12_worn_c43 n O m I b0 y3 y4 y5 = some res → Ok g (d + 5, RX12, cX12_worn, 6, false, 0, 0, Z.length, pSl Z) Qx 43 [(0, .ref b0), (3, .int y3), (4, .int y4), (5, .int y5)] [] (Z, I, L, O) := by
  intro m
  induction m with
  | zero => intro I b0 y3 y4 y5 hZ_b0 h; rw [f12_worn_c43] at h; cases h
  | succ m ih =>
    intro I b0 y3 y4 y5 hZ_b0 h
    rw [f12_worn_c43] at h
    refine ok_iload dX12_worn_43 3 rfl ?_
    refine ok_aload_n dX12_worn_45 0 rfl ?_
    have hT1 : Z[(rO O b0 0)]? = some (13, 4371) := (wt_f (ci := 12) (k := 0) hW hZ_b0 rfl).2
    refine ok_getR (ci := 12) (k := 0) dX12_worn_46 flRX12_7 rfl hW hZ_b0 (by decide) ?_
    refine ok_iconst (v := 4) dX12_worn_49 (by decide) ?_
    refine ok_iald2 (N := 4) dX12_worn_50 hT1 (by unfold vp_in; decide) (by decide) ?_
    refine ok_icmp_ge (t := 82) dX12_worn_51 (by decide) (fun hc2 => ?_) (fun hc2 => ?_)
    · have h := (if_pos hc2).symm.trans h
      refine ok_iconst (v := 1) dX12_worn_82 (by decide) ?_
      cases h
      exact ok_iret dX12_worn_83 (hQ (Or.inr rfl))
    · have h := (if_neg hc2).symm.trans h
      refine ok_aload_n dX12_worn_54 0 rfl ?_
      refine ok_getR (ci := 12) (k := 0) dX12_worn_55 flRX12_7 rfl hW hZ_b0 (by decide) ?_
      refine ok_sipush (v := 231) dX12_worn_58 (by decide) ?_
      refine ok_sipush (v := 137) dX12_worn_61 (by decide) ?_
      refine ok_iload dX12_worn_64 3 rfl ?_
      refine ok_imul dX12_worn_66 ?_
      refine ok_iadd dX12_worn_67 ?_
      refine ok_iload dX12_worn_68 2 rfl ?_
      refine ok_iadd dX12_worn_70 ?_
      refine ok_bipush (v := 7) dX12_worn_71 (by decide) ?_
      refine ok_isub dX12_worn_73 ?_
      refine ok_iload_n dX12_worn_74 1 rfl ?_
      obtain ⟨hg3, h⟩ := gd h
      obtain ⟨I4, eI4, h⟩ := blE h
      refine ok_iast3 dX12_worn_75 hT1 hg3 rfl eI4 ?_
      refine ok_iinc (u := (y5 + 1)) (l' := [(5, .int (y5 + 1)), (0, .ref b0), (3, .int y3), (4, .int y4)]) dX12_worn_76 3 rfl rfl (Nat.le_of_ble_eq_true rfl) rfl ?_
      refine ok_goto (t := 43) dX12_worn_79 (by decide) ?_
      refine ok_sub [1, 2, 3, 0] rfl ?_
      exact ih I4 b0 y3 y4 (y5 + 1) hZ_b0 h
def f12_worn (n : Nat) (I : (Nat → Nat → Int32)) (O : (Nat → Nat → Option Nat)) (a0 : Nat) (x1 : Int32) (x2 : Int32) (x3 : Int32) : Option (Int32 × (Nat → Nat → Int32)) := (f12_isPlace I O a0 x1 x2).bind fun r1 => (if r1 = 0 then some ((0 : Int32), I) else (f12_isIn x3 (0 : Int32) (9 : Int32)).bind fun r4 => (if r4 = 0 then some ((0 : Int32), I) else bl ((((10 : Int32) + ((16 : Int32) * x1)) + x2) : Int32) fun z7 => (if z7 < 0 ∨ 4371 ≤ z7.toNatClampNeg then none else bl (sI I (rO O a0 0) z7.toNatClampNeg x3) fun I10 => f12_worn_c43 n O n I10 a0 x3 z7 (0 : Int32))))
set_option maxHeartbeats 4000000 in
set_option maxRecDepth 20000 in
theorem o12_worn {g : pG} {Qx : Option Value → pW → Prop} {Z : pZ} {I : (Nat → Nat → Int32)} {L : (Nat → Nat → Int64)} {O : (Nat → Nat → Option Nat)} {n : Nat} {a0 : Nat} {x1 : Int32} {x2 : Int32} {x3 : Int32} {res : Int32 × (Nat → Nat → Int32)} (d : Nat) (hW : WT Z O) (hZ0 : Z[a0]? = some (12, 34)) (h : f12_worn n I O a0 x1 x2 x3 = some res) (hQ : (res.1 = 0 ∨ res.1 = 1) → Qx (some (.int res.1)) (Z, res.2, L, O)) : Ok g (d + 5, RX12, cX12_worn, 6, false, 0, 0, Z.length, pSl Z) Qx 0 [(0, .ref a0), (1, .int x1), (2, .int x2), (3, .int x3)] [] (Z, I, L, O) := by
  unfold f12_worn at h
  refine ok_aload_n dX12_worn_0 0 rfl ?_
  refine ok_iload_n dX12_worn_1 1 rfl ?_
  refine ok_iload_n dX12_worn_2 2 rfl ?_
  obtain ⟨r1, hr2, h⟩ := bd h
  refine ok_callV (d := ((d + 0) + 4)) (mt := m12_isPlace) (mc := 0) (ms := 0) (As := [.int x1, .int x2]) (r := []) dX12_worn_3 mo12_isPlace mv12_isPlace lkRX12_94 rfl hZ0 (q := (RX12, TX12, 34)) rfl rfl rfl (Nat.le_of_ble_eq_true rfl) (by show _ + 1 ≤ d + _; omega) (Nat.le_refl _) (Nat.le_refl _) (pRt_mono ?_)
  refine k12_isPlace (d + 0) hW hZ0 hr2 ?_
  intro hbr1
  show Ok g _ Qx 6 [(0, .ref a0), (1, .int x1), (2, .int x2), (3, .int x3)] [.int r1] (Z, I, L, O)
  refine ok_if_eq (t := 19) dX12_worn_6 (by decide) (fun hc3 => ?_) (fun hc3 => ?_)
  · have h := (if_pos hc3).symm.trans h
    refine ok_iconst (v := 0) dX12_worn_19 (by decide) ?_
    cases h
    exact ok_iret dX12_worn_20 (hQ (Or.inl rfl))
  · have h := (if_neg hc3).symm.trans h
    refine ok_iload_n dX12_worn_9 3 rfl ?_
    refine ok_iconst (v := 0) dX12_worn_10 (by decide) ?_
    refine ok_bipush (v := 9) dX12_worn_11 (by decide) ?_
    obtain ⟨r4, hr5, h⟩ := bd h
    refine ok_callS (d := ((d + 2) + 2)) (mt := m12_isIn) (mc := 0) (ms := 0) (As := [.int x3, .int 0, .int 9]) (r := []) dX12_worn_13 mo12_isIn mv12_isIn lkRX12_75 rfl rfl (Nat.le_of_ble_eq_true rfl) (by show _ + 1 ≤ d + _; omega) (Nat.le_refl _) (Nat.le_refl _) (pRt_mono ?_)
    refine k12_isIn (d + 2) hW  hr5 ?_
    intro hbr4
    show Ok g _ Qx 16 [(0, .ref a0), (1, .int x1), (2, .int x2), (3, .int x3)] [.int r4] (Z, I, L, O)
    refine ok_if_ne (t := 21) dX12_worn_16 (by decide) (fun hc6 => ?_) (fun hc6 => ?_)
    · have h := (if_neg hc6).symm.trans h
      refine ok_bipush (v := 10) dX12_worn_21 (by decide) ?_
      refine ok_bipush (v := 16) dX12_worn_23 (by decide) ?_
      refine ok_iload_n dX12_worn_25 1 rfl ?_
      refine ok_imul dX12_worn_26 ?_
      refine ok_iadd dX12_worn_27 ?_
      refine ok_iload_n dX12_worn_28 2 rfl ?_
      refine ok_iadd dX12_worn_29 ?_
      obtain ⟨z7, ez7, h⟩ := blE h
      refine ok_nm ez7 ?_
      refine ok_istore (l' := [(4, .int z7), (0, .ref a0), (1, .int x1), (2, .int x2), (3, .int x3)]) dX12_worn_30 (Nat.le_of_ble_eq_true rfl) rfl ?_
      refine ok_aload_n dX12_worn_32 1 rfl ?_
      have hT8 : Z[(rO O a0 0)]? = some (13, 4371) := (wt_f (ci := 12) (k := 0) hW hZ0 rfl).2
      refine ok_getR (ci := 12) (k := 0) dX12_worn_33 flRX12_7 rfl hW hZ0 (by decide) ?_
      refine ok_iload dX12_worn_36 0 rfl ?_
      refine ok_iload_n dX12_worn_38 4 rfl ?_
      obtain ⟨hg9, h⟩ := gd h
      obtain ⟨I10, eI10, h⟩ := blE h
      refine ok_iast3 dX12_worn_39 hT8 hg9 rfl eI10 ?_
      refine ok_iconst (v := 0) dX12_worn_40 (by decide) ?_
      refine ok_istore (l' := [(5, .int 0), (4, .int z7), (0, .ref a0), (1, .int x1), (2, .int x2), (3, .int x3)]) dX12_worn_41 (Nat.le_of_ble_eq_true rfl) rfl ?_
      refine ok_sub [2, 5, 1, 0] rfl ?_
      exact o12_worn_c43 d hW hQ  n I10 a0 x3 z7 (0 : Int32) hZ0 h
    · have h := (if_pos hc6).symm.trans h
      refine ok_iconst (v := 0) dX12_worn_19 (by decide) ?_
      cases h
      exact ok_iret dX12_worn_20 (hQ (Or.inl rfl))
theorem k12_worn {g : pG} {Q : Option Value → pW → Prop} {Z : pZ} {I : (Nat → Nat → Int32)} {L : (Nat → Nat → Int64)} {O : (Nat → Nat → Option Nat)} {n : Nat} {a0 : Nat} {x1 : Int32} {x2 : Int32} {x3 : Int32} {res : Int32 × (Nat → Nat → Int32)} (d : Nat) (hW : WT Z O) (hZ0 : Z[a0]? = some (12, 34)) (h : f12_worn n I O a0 x1 x2 x3 = some res) (hQ : Q (some (.int res.1)) (Z, res.2, L, O)) : CT g (d + 5) m12_worn 0 0 [.ref a0, .int x1, .int x2, .int x3] (Z, I, L, O) Q :=
  ct_of_ok (mt := m12_worn) (ini := false) mo12_worn.2.2.2.2 (fun h => by cases h) (Nat.le_of_ble_eq_true rfl) (o12_worn d hW hZ0 h (fun hb => ⟨hb, hQ, rfl, rfl⟩))
theorem dX12_child_0 : decode cX12_child 0 = .ok (.aload_n 0, 1) := by decide +kernel
theorem dX12_child_1 : decode cX12_child 1 = .ok (.getfield 7, 3) := by decide +kernel
theorem dX12_child_4 : decode cX12_child 4 = .ok (.iconst 1, 1) := by decide +kernel
theorem dX12_child_5 : decode cX12_child 5 = .ok (.iaload, 1) := by decide +kernel
theorem dX12_child_6 : decode cX12_child 6 = .ok (.iconst 4, 1) := by decide +kernel
theorem dX12_child_7 : decode cX12_child 7 = .ok (.if_icmp .ne 5, 3) := by decide +kernel
theorem dX12_child_10 : decode cX12_child 10 = .ok (.iconst (-1), 1) := by decide +kernel
theorem dX12_child_11 : decode cX12_child 11 = .ok (.ireturn, 1) := by decide +kernel
theorem dX12_child_12 : decode cX12_child 12 = .ok (.aload_n 0, 1) := by decide +kernel
theorem dX12_child_13 : decode cX12_child 13 = .ok (.getfield 7, 3) := by decide +kernel
theorem dX12_child_16 : decode cX12_child 16 = .ok (.iconst 1, 1) := by decide +kernel
theorem dX12_child_17 : decode cX12_child 17 = .ok (.dup2, 1) := by decide +kernel
theorem dX12_child_18 : decode cX12_child 18 = .ok (.iaload, 1) := by decide +kernel
theorem dX12_child_19 : decode cX12_child 19 = .ok (.iconst 1, 1) := by decide +kernel
theorem dX12_child_20 : decode cX12_child 20 = .ok (.iadd, 1) := by decide +kernel
theorem dX12_child_21 : decode cX12_child 21 = .ok (.iastore, 1) := by decide +kernel
theorem dX12_child_22 : decode cX12_child 22 = .ok (.aload_n 0, 1) := by decide +kernel
theorem dX12_child_23 : decode cX12_child 23 = .ok (.getfield 7, 3) := by decide +kernel
theorem dX12_child_26 : decode cX12_child 26 = .ok (.iconst 1, 1) := by decide +kernel
theorem dX12_child_27 : decode cX12_child 27 = .ok (.iaload, 1) := by decide +kernel
theorem dX12_child_28 : decode cX12_child 28 = .ok (.iconst 1, 1) := by decide +kernel
theorem dX12_child_29 : decode cX12_child 29 = .ok (.isub, 1) := by decide +kernel
theorem dX12_child_30 : decode cX12_child 30 = .ok (.ireturn, 1) := by decide +kernel
def m12_child : pMT := (yX12_child, cX12_child, 1, some .int)
theorem mo12_child : mOK m12_child 0 := ⟨tb_i 1435 (by decide +kernel), wi_RX12, ⟨wn_RX12.1, wn_RX12.2, by decide +kernel⟩, by decide, plainFor_of_name wp_RX12⟩
theorem mv12_child : mV m12_child := ⟨tb_i 1433 (by decide +kernel), tb_i 1434 (by decide +kernel)⟩
def f12_child (I : (Nat → Nat → Int32)) (O : (Nat → Nat → Option Nat)) (a0 : Nat) : Option (Int32 × (Nat → Nat → Int32)) := (if (I (rO O a0 0) 1) = (4 : Int32) then some (((-1) : Int32), I) else bl (sI I (rO O a0 0) 1 ((I (rO O a0 0) 1) + 1)) fun I3 => some (((I3 (rO O a0 0) 1) - 1), I3))
set_option maxHeartbeats 4000000 in
set_option maxRecDepth 20000 in
theorem o12_child {g : pG} {Qx : Option Value → pW → Prop} {Z : pZ} {I : (Nat → Nat → Int32)} {L : (Nat → Nat → Int64)} {O : (Nat → Nat → Option Nat)} {a0 : Nat} {res : Int32 × (Nat → Nat → Int32)} (d : Nat) (hW : WT Z O) (hZ0 : Z[a0]? = some (12, 34)) (h : f12_child I O a0 = some res) (hQ : Qx (some (.int res.1)) (Z, res.2, L, O)) : Ok g (d + 2, RX12, cX12_child, 1, false, 0, 0, Z.length, pSl Z) Qx 0 [(0, .ref a0)] [] (Z, I, L, O) := by
  unfold f12_child at h
  refine ok_aload_n dX12_child_0 0 rfl ?_
  have hT1 : Z[(rO O a0 0)]? = some (13, 4371) := (wt_f (ci := 12) (k := 0) hW hZ0 rfl).2
  refine ok_getR (ci := 12) (k := 0) dX12_child_1 flRX12_7 rfl hW hZ0 (by decide) ?_
  refine ok_iconst (v := 1) dX12_child_4 (by decide) ?_
  refine ok_iald2 (N := 1) dX12_child_5 hT1 (by unfold vp_in; decide) (by decide) ?_
  refine ok_iconst (v := 4) dX12_child_6 (by decide) ?_
  refine ok_icmp_ne (t := 12) dX12_child_7 (by decide) (fun hc2 => ?_) (fun hc2 => ?_)
  · have h := (if_neg hc2).symm.trans h
    refine ok_aload_n dX12_child_12 0 rfl ?_
    refine ok_getR (ci := 12) (k := 0) dX12_child_13 flRX12_7 rfl hW hZ0 (by decide) ?_
    refine ok_iconst (v := 1) dX12_child_16 (by decide) ?_
    refine ok_dup2 dX12_child_17 rfl rfl ?_
    refine ok_iald2 (N := 1) dX12_child_18 hT1 (by unfold vp_in; decide) (by decide) ?_
    refine ok_iconst (v := 1) dX12_child_19 (by decide) ?_
    refine ok_iadd dX12_child_20 ?_
    obtain ⟨I3, eI3, h⟩ := blE h
    refine ok_iast3 dX12_child_21 hT1 (by unfold vp_in; decide) (by decide) eI3 ?_
    refine ok_aload_n dX12_child_22 0 rfl ?_
    refine ok_getR (ci := 12) (k := 0) dX12_child_23 flRX12_7 rfl hW hZ0 (by decide) ?_
    refine ok_iconst (v := 1) dX12_child_26 (by decide) ?_
    refine ok_iald2 (N := 1) dX12_child_27 hT1 (by unfold vp_in; decide) (by decide) ?_
    refine ok_iconst (v := 1) dX12_child_28 (by decide) ?_
    refine ok_isub dX12_child_29 ?_
    cases h
    exact ok_iret dX12_child_30 hQ
  · have h := (if_pos hc2).symm.trans h
    refine ok_iconst (v := (-1)) dX12_child_10 (by decide) ?_
    cases h
    exact ok_iret dX12_child_11 hQ
theorem k12_child {g : pG} {Q : Option Value → pW → Prop} {Z : pZ} {I : (Nat → Nat → Int32)} {L : (Nat → Nat → Int64)} {O : (Nat → Nat → Option Nat)} {a0 : Nat} {res : Int32 × (Nat → Nat → Int32)} (d : Nat) (hW : WT Z O) (hZ0 : Z[a0]? = some (12, 34)) (h : f12_child I O a0 = some res) (hQ : Q (some (.int res.1)) (Z, res.2, L, O)) : CT g (d + 2) m12_child 0 0 [.ref a0] (Z, I, L, O) Q :=
  ct_of_ok (mt := m12_child) (ini := false) mo12_child.2.2.2.2 (fun h => by cases h) (Nat.le_of_ble_eq_true rfl) (o12_child d hW hZ0 h ⟨trivial, hQ, rfl, rfl⟩)
theorem dX12_four_0 : decode cX12_four 0 = .ok (.bipush 24, 2) := by decide +kernel
theorem dX12_four_2 : decode cX12_four 2 = .ok (.istore_n 2, 1) := by decide +kernel
theorem dX12_four_3 : decode cX12_four 3 = .ok (.iload_n 2, 1) := by decide +kernel
theorem dX12_four_4 : decode cX12_four 4 = .ok (.ifCond .lt 35, 3) := by decide +kernel
theorem dX12_four_7 : decode cX12_four 7 = .ok (.aload_n 0, 1) := by decide +kernel
theorem dX12_four_8 : decode cX12_four 8 = .ok (.getfield 19, 3) := by decide +kernel
theorem dX12_four_11 : decode cX12_four 11 = .ok (.aload_n 0, 1) := by decide +kernel
theorem dX12_four_12 : decode cX12_four 12 = .ok (.getfield 97, 3) := by decide +kernel
theorem dX12_four_15 : decode cX12_four 15 = .ok (.iload_n 1, 1) := by decide +kernel
theorem dX12_four_16 : decode cX12_four 16 = .ok (.iload_n 2, 1) := by decide +kernel
theorem dX12_four_17 : decode cX12_four 17 = .ok (.ishr, 1) := by decide +kernel
theorem dX12_four_18 : decode cX12_four 18 = .ok (.sipush 255, 3) := by decide +kernel
theorem dX12_four_21 : decode cX12_four 21 = .ok (.iand, 1) := by decide +kernel
theorem dX12_four_22 : decode cX12_four 22 = .ok (.iastore, 1) := by decide +kernel
theorem dX12_four_23 : decode cX12_four 23 = .ok (.aload_n 0, 1) := by decide +kernel
theorem dX12_four_24 : decode cX12_four 24 = .ok (.dup, 1) := by decide +kernel
theorem dX12_four_25 : decode cX12_four 25 = .ok (.getfield 97, 3) := by decide +kernel
theorem dX12_four_28 : decode cX12_four 28 = .ok (.iconst 1, 1) := by decide +kernel
theorem dX12_four_29 : decode cX12_four 29 = .ok (.iadd, 1) := by decide +kernel
theorem dX12_four_30 : decode cX12_four 30 = .ok (.putfield 97, 3) := by decide +kernel
theorem dX12_four_33 : decode cX12_four 33 = .ok (.iinc 2 (-8), 3) := by decide +kernel
theorem dX12_four_36 : decode cX12_four 36 = .ok (.goto (-33), 3) := by decide +kernel
theorem dX12_four_39 : decode cX12_four 39 = .ok (.return_, 1) := by decide +kernel
def m12_four : pMT := (yX12_four, cX12_four, 3, none)
theorem mo12_four : mOK m12_four 1 := ⟨tb_i 1443 (by decide +kernel), wi_RX12, ⟨wn_RX12.1, wn_RX12.2, by decide +kernel⟩, by decide, plainFor_of_name wp_RX12⟩
theorem mv12_four : mV m12_four := ⟨tb_i 1442 (by decide +kernel), tb_p 60 (by decide +kernel)⟩
def f12_four_c3 (n : Nat) (O : (Nat → Nat → Option Nat)) : Nat → (Nat → Nat → Int32) → Nat → Int32 → Int32 → Option ((Nat → Nat → Int32))
  | 0, _, _, _, _ => none
  | m + 1, I, b0, y1, y2 => (if y2 < 0 then some (I) else (if (I b0 4) < 0 ∨ 300 ≤ (I b0 4).toNatClampNeg then none else bl (sI I (rO O b0 3) (I b0 4).toNatClampNeg ((y1 >>> (y2 &&& 31)) &&& 255)) fun I4 => bl (sI I4 b0 4 ((I4 b0 4) + 1)) fun I5 => f12_four_c3 n O m I5 b0 y1 (y2 + (-8))))
set_option maxHeartbeats 4000000 in
set_option maxRecDepth 20000 in
theorem o12_four_c3 {g : pG} {Qx : Option Value → pW → Prop} {Z : pZ} {L : (Nat → Nat → Int64)} {O : (Nat → Nat → Option Nat)} {n : Nat} {res : (Nat → Nat → Int32)} (d : Nat) (hW : WT Z O) (hQ : Qx none (Z, res, L, O)) : ∀ (m : Nat) (I : (Nat → Nat → Int32)) (b0 : Nat) (y1 : Int32) (y2 : Int32), (Z[b0]? = some (12, 34)) → f12_four_c3 n O m I b0 y1 y2 = some res → Ok g (d + 2, RX12, cX12_four, 3, false, 0, 0, Z.length, pSl Z) Qx 3 [(0, .ref b0), (1, .int y1), (2, .int y2)] [] (Z, I, L, O) := by
  intro m
  induction m with
  | zero => intro I b0 y1 y2 hZ_b0 h; rw [f12_four_c3] at h; cases h
  | succ m ih =>
    intro I b0 y1 y2 hZ_b0 h
    rw [f12_four_c3] at h
    refine ok_iload_n dX12_four_3 2 rfl ?_
    refine ok_if_lt (t := 39) dX12_four_4 (by decide) (fun hc1 => ?_) (fun hc1 => ?_)
    · have h := (if_pos hc1).symm.trans h
      cases h
      exact ok_vret dX12_four_39 hQ
    · have h := (if_neg hc1).symm.trans h
      refine ok_aload_n dX12_four_7 0 rfl ?_
      have hT2 : Z[(rO O b0 3)]? = some (13, 300) := (wt_f (ci := 12) (k := 3) hW hZ_b0 rfl).2
      refine ok_getR (ci := 12) (k := 3) dX12_four_8 flRX12_19 rfl hW hZ_b0 (by decide) ?_
      refine ok_aload_n dX12_four_11 0 rfl ?_
      refine ok_getI (ci := 12) (k := 4) dX12_four_12 flRX12_97 rfl hZ_b0 (by decide) ?_
      refine ok_iload_n dX12_four_15 1 rfl ?_
      refine ok_iload_n dX12_four_16 2 rfl ?_
      refine ok_ishr dX12_four_17 ?_
      refine ok_sipush (v := 255) dX12_four_18 (by decide) ?_
      refine ok_iand dX12_four_21 ?_
      obtain ⟨hg3, h⟩ := gd h
      obtain ⟨I4, eI4, h⟩ := blE h
      refine ok_iast3 dX12_four_22 hT2 hg3 rfl eI4 ?_
      refine ok_aload_n dX12_four_23 0 rfl ?_
      refine ok_dup dX12_four_24 rfl ?_
      refine ok_getI (ci := 12) (k := 4) dX12_four_25 flRX12_97 rfl hZ_b0 (by decide) ?_
      refine ok_iconst (v := 1) dX12_four_28 (by decide) ?_
      refine ok_iadd dX12_four_29 ?_
      obtain ⟨I5, eI5, h⟩ := blE h
      refine ok_putI2 (ci := 12) (k := 4) dX12_four_30 flRX12_97 rfl (Or.inl rfl) hZ_b0 (by decide) eI5 ?_
      refine ok_iinc (u := (y2 + (-8))) (l' := [(2, .int (y2 + (-8))), (0, .ref b0), (1, .int y1)]) dX12_four_33 2 rfl rfl (Nat.le_of_ble_eq_true rfl) rfl ?_
      refine ok_goto (t := 3) dX12_four_36 (by decide) ?_
      refine ok_sub [1, 2, 0] rfl ?_
      exact ih I5 b0 y1 (y2 + (-8)) hZ_b0 h
def f12_four (n : Nat) (I : (Nat → Nat → Int32)) (O : (Nat → Nat → Option Nat)) (a0 : Nat) (x1 : Int32) : Option ((Nat → Nat → Int32)) := f12_four_c3 n O n I a0 x1 (24 : Int32)
set_option maxHeartbeats 4000000 in
set_option maxRecDepth 20000 in
theorem o12_four {g : pG} {Qx : Option Value → pW → Prop} {Z : pZ} {I : (Nat → Nat → Int32)} {L : (Nat → Nat → Int64)} {O : (Nat → Nat → Option Nat)} {n : Nat} {a0 : Nat} {x1 : Int32} {res : (Nat → Nat → Int32)} (d : Nat) (hW : WT Z O) (hZ0 : Z[a0]? = some (12, 34)) (h : f12_four n I O a0 x1 = some res) (hQ : Qx none (Z, res, L, O)) : Ok g (d + 2, RX12, cX12_four, 3, false, 0, 0, Z.length, pSl Z) Qx 0 [(0, .ref a0), (1, .int x1)] [] (Z, I, L, O) := by
  unfold f12_four at h
  refine ok_bipush (v := 24) dX12_four_0 (by decide) ?_
  refine ok_istore_n (l' := [(2, .int 24), (0, .ref a0), (1, .int x1)]) dX12_four_2 rfl (Nat.le_of_ble_eq_true rfl) rfl ?_
  refine ok_sub [1, 2, 0] rfl ?_
  exact o12_four_c3 d hW hQ  n I a0 x1 (24 : Int32) hZ0 h
theorem k12_four {g : pG} {Q : Option Value → pW → Prop} {Z : pZ} {I : (Nat → Nat → Int32)} {L : (Nat → Nat → Int64)} {O : (Nat → Nat → Option Nat)} {n : Nat} {a0 : Nat} {x1 : Int32} {res : (Nat → Nat → Int32)} (d : Nat) (hW : WT Z O) (hZ0 : Z[a0]? = some (12, 34)) (h : f12_four n I O a0 x1 = some res) (hQ : Q none (Z, res, L, O)) : CT g (d + 2) m12_four 0 0 [.ref a0, .int x1] (Z, I, L, O) Q :=
  ct_of_ok (mt := m12_four) (ini := false) mo12_four.2.2.2.2 (fun h => by cases h) (Nat.le_of_ble_eq_true rfl) (o12_four d hW hZ0 h ⟨trivial, hQ, rfl, rfl⟩)
theorem dX12_feed_0 : decode cX12_feed 0 = .ok (.aload_n 0, 1) := by decide +kernel
theorem dX12_feed_1 : decode cX12_feed 1 = .ok (.getfield 97, 3) := by decide +kernel
theorem dX12_feed_4 : decode cX12_feed 4 = .ok (.bipush 20, 2) := by decide +kernel
theorem dX12_feed_6 : decode cX12_feed 6 = .ok (.iadd, 1) := by decide +kernel
theorem dX12_feed_7 : decode cX12_feed 7 = .ok (.sipush 300, 3) := by decide +kernel
theorem dX12_feed_10 : decode cX12_feed 10 = .ok (.if_icmp .le 5, 3) := by decide +kernel
theorem dX12_feed_13 : decode cX12_feed 13 = .ok (.iconst (-1), 1) := by decide +kernel
theorem dX12_feed_14 : decode cX12_feed 14 = .ok (.ireturn, 1) := by decide +kernel
theorem dX12_feed_15 : decode cX12_feed 15 = .ok (.aload_n 0, 1) := by decide +kernel
theorem dX12_feed_16 : decode cX12_feed 16 = .ok (.iload_n 1, 1) := by decide +kernel
theorem dX12_feed_17 : decode cX12_feed 17 = .ok (.invokevirtual 100, 3) := by decide +kernel
theorem dX12_feed_20 : decode cX12_feed 20 = .ok (.aload_n 0, 1) := by decide +kernel
theorem dX12_feed_21 : decode cX12_feed 21 = .ok (.iload_n 2, 1) := by decide +kernel
theorem dX12_feed_22 : decode cX12_feed 22 = .ok (.invokevirtual 100, 3) := by decide +kernel
theorem dX12_feed_25 : decode cX12_feed 25 = .ok (.aload_n 0, 1) := by decide +kernel
theorem dX12_feed_26 : decode cX12_feed 26 = .ok (.iload_n 3, 1) := by decide +kernel
theorem dX12_feed_27 : decode cX12_feed 27 = .ok (.invokevirtual 100, 3) := by decide +kernel
theorem dX12_feed_30 : decode cX12_feed 30 = .ok (.aload_n 0, 1) := by decide +kernel
theorem dX12_feed_31 : decode cX12_feed 31 = .ok (.iload 4, 2) := by decide +kernel
theorem dX12_feed_33 : decode cX12_feed 33 = .ok (.invokevirtual 100, 3) := by decide +kernel
theorem dX12_feed_36 : decode cX12_feed 36 = .ok (.aload_n 0, 1) := by decide +kernel
theorem dX12_feed_37 : decode cX12_feed 37 = .ok (.iload 5, 2) := by decide +kernel
theorem dX12_feed_39 : decode cX12_feed 39 = .ok (.invokevirtual 100, 3) := by decide +kernel
theorem dX12_feed_42 : decode cX12_feed 42 = .ok (.aload_n 0, 1) := by decide +kernel
theorem dX12_feed_43 : decode cX12_feed 43 = .ok (.getfield 97, 3) := by decide +kernel
theorem dX12_feed_46 : decode cX12_feed 46 = .ok (.ireturn, 1) := by decide +kernel
def m12_feed : pMT := (yX12_feed, cX12_feed, 6, some .int)
theorem mo12_feed : mOK m12_feed 5 := ⟨tb_i 1439 (by decide +kernel), wi_RX12, ⟨wn_RX12.1, wn_RX12.2, by decide +kernel⟩, by decide, plainFor_of_name wp_RX12⟩
theorem mv12_feed : mV m12_feed := ⟨tb_i 1437 (by decide +kernel), tb_i 1438 (by decide +kernel)⟩
def f12_feed (n : Nat) (I : (Nat → Nat → Int32)) (O : (Nat → Nat → Option Nat)) (a0 : Nat) (x1 : Int32) (x2 : Int32) (x3 : Int32) (x4 : Int32) (x5 : Int32) : Option (Int32 × (Nat → Nat → Int32)) := (if ((I a0 4) + 20) ≤ (300 : Int32) then (f12_four n I O a0 x1).bind fun r2 => (f12_four n r2 O a0 x2).bind fun r4 => (f12_four n r4 O a0 x3).bind fun r6 => (f12_four n r6 O a0 x4).bind fun r8 => (f12_four n r8 O a0 x5).bind fun r10 => some ((r10 a0 4), r10) else some (((-1) : Int32), I))
set_option maxHeartbeats 4000000 in
set_option maxRecDepth 20000 in
theorem o12_feed {g : pG} {Qx : Option Value → pW → Prop} {Z : pZ} {I : (Nat → Nat → Int32)} {L : (Nat → Nat → Int64)} {O : (Nat → Nat → Option Nat)} {n : Nat} {a0 : Nat} {x1 : Int32} {x2 : Int32} {x3 : Int32} {x4 : Int32} {x5 : Int32} {res : Int32 × (Nat → Nat → Int32)} (d : Nat) (hW : WT Z O) (hZ0 : Z[a0]? = some (12, 34)) (h : f12_feed n I O a0 x1 x2 x3 x4 x5 = some res) (hQ : Qx (some (.int res.1)) (Z, res.2, L, O)) : Ok g (d + 3, RX12, cX12_feed, 6, false, 0, 0, Z.length, pSl Z) Qx 0 [(0, .ref a0), (1, .int x1), (2, .int x2), (3, .int x3), (4, .int x4), (5, .int x5)] [] (Z, I, L, O) := by
  unfold f12_feed at h
  refine ok_aload_n dX12_feed_0 0 rfl ?_
  refine ok_getI (ci := 12) (k := 4) dX12_feed_1 flRX12_97 rfl hZ0 (by decide) ?_
  refine ok_bipush (v := 20) dX12_feed_4 (by decide) ?_
  refine ok_iadd dX12_feed_6 ?_
  refine ok_sipush (v := 300) dX12_feed_7 (by decide) ?_
  refine ok_icmp_le (t := 15) dX12_feed_10 (by decide) (fun hc1 => ?_) (fun hc1 => ?_)
  · have h := (if_pos hc1).symm.trans h
    refine ok_aload_n dX12_feed_15 0 rfl ?_
    refine ok_iload_n dX12_feed_16 1 rfl ?_
    obtain ⟨r2, hr3, h⟩ := bd h
    refine ok_callV (d := ((d + 0) + 2)) (mt := m12_four) (mc := 0) (ms := 0) (As := [.int x1]) (r := []) dX12_feed_17 mo12_four mv12_four lkRX12_100 rfl hZ0 (q := (RX12, TX12, 34)) rfl rfl rfl (Nat.le_of_ble_eq_true rfl) (by show _ + 1 ≤ d + _; omega) (Nat.le_refl _) (Nat.le_refl _) (pRt_mono ?_)
    refine k12_four (d + 0) hW hZ0 hr3 ?_
    intro _
    show Ok g _ Qx 20 [(0, .ref a0), (1, .int x1), (2, .int x2), (3, .int x3), (4, .int x4), (5, .int x5)] [] (Z, r2, L, O)
    refine ok_aload_n dX12_feed_20 0 rfl ?_
    refine ok_iload_n dX12_feed_21 2 rfl ?_
    obtain ⟨r4, hr5, h⟩ := bd h
    refine ok_callV (d := ((d + 0) + 2)) (mt := m12_four) (mc := 0) (ms := 0) (As := [.int x2]) (r := []) dX12_feed_22 mo12_four mv12_four lkRX12_100 rfl hZ0 (q := (RX12, TX12, 34)) rfl rfl rfl (Nat.le_of_ble_eq_true rfl) (by show _ + 1 ≤ d + _; omega) (Nat.le_refl _) (Nat.le_refl _) (pRt_mono ?_)
    refine k12_four (d + 0) hW hZ0 hr5 ?_
    intro _
    show Ok g _ Qx 25 [(0, .ref a0), (1, .int x1), (2, .int x2), (3, .int x3), (4, .int x4), (5, .int x5)] [] (Z, r4, L, O)
    refine ok_aload_n dX12_feed_25 0 rfl ?_
    refine ok_iload_n dX12_feed_26 3 rfl ?_
    obtain ⟨r6, hr7, h⟩ := bd h
    refine ok_callV (d := ((d + 0) + 2)) (mt := m12_four) (mc := 0) (ms := 0) (As := [.int x3]) (r := []) dX12_feed_27 mo12_four mv12_four lkRX12_100 rfl hZ0 (q := (RX12, TX12, 34)) rfl rfl rfl (Nat.le_of_ble_eq_true rfl) (by show _ + 1 ≤ d + _; omega) (Nat.le_refl _) (Nat.le_refl _) (pRt_mono ?_)
    refine k12_four (d + 0) hW hZ0 hr7 ?_
    intro _
    show Ok g _ Qx 30 [(0, .ref a0), (1, .int x1), (2, .int x2), (3, .int x3), (4, .int x4), (5, .int x5)] [] (Z, r6, L, O)
    refine ok_aload_n dX12_feed_30 0 rfl ?_
    refine ok_iload dX12_feed_31 4 rfl ?_
    obtain ⟨r8, hr9, h⟩ := bd h
    refine ok_callV (d := ((d + 0) + 2)) (mt := m12_four) (mc := 0) (ms := 0) (As := [.int x4]) (r := []) dX12_feed_33 mo12_four mv12_four lkRX12_100 rfl hZ0 (q := (RX12, TX12, 34)) rfl rfl rfl (Nat.le_of_ble_eq_true rfl) (by show _ + 1 ≤ d + _; omega) (Nat.le_refl _) (Nat.le_refl _) (pRt_mono ?_)
    refine k12_four (d + 0) hW hZ0 hr9 ?_
    intro _
    show Ok g _ Qx 36 [(0, .ref a0), (1, .int x1), (2, .int x2), (3, .int x3), (4, .int x4), (5, .int x5)] [] (Z, r8, L, O)
    refine ok_aload_n dX12_feed_36 0 rfl ?_
    refine ok_iload dX12_feed_37 5 rfl ?_
    obtain ⟨r10, hr11, h⟩ := bd h
    refine ok_callV (d := ((d + 0) + 2)) (mt := m12_four) (mc := 0) (ms := 0) (As := [.int x5]) (r := []) dX12_feed_39 mo12_four mv12_four lkRX12_100 rfl hZ0 (q := (RX12, TX12, 34)) rfl rfl rfl (Nat.le_of_ble_eq_true rfl) (by show _ + 1 ≤ d + _; omega) (Nat.le_refl _) (Nat.le_refl _) (pRt_mono ?_)
    refine k12_four (d + 0) hW hZ0 hr11 ?_
    intro _
    show Ok g _ Qx 42 [(0, .ref a0), (1, .int x1), (2, .int x2), (3, .int x3), (4, .int x4), (5, .int x5)] [] (Z, r10, L, O)
    refine ok_aload_n dX12_feed_42 0 rfl ?_
    refine ok_getI (ci := 12) (k := 4) dX12_feed_43 flRX12_97 rfl hZ0 (by decide) ?_
    cases h
    exact ok_iret dX12_feed_46 hQ
  · have h := (if_neg hc1).symm.trans h
    refine ok_iconst (v := (-1)) dX12_feed_13 (by decide) ?_
    cases h
    exact ok_iret dX12_feed_14 hQ
theorem k12_feed {g : pG} {Q : Option Value → pW → Prop} {Z : pZ} {I : (Nat → Nat → Int32)} {L : (Nat → Nat → Int64)} {O : (Nat → Nat → Option Nat)} {n : Nat} {a0 : Nat} {x1 : Int32} {x2 : Int32} {x3 : Int32} {x4 : Int32} {x5 : Int32} {res : Int32 × (Nat → Nat → Int32)} (d : Nat) (hW : WT Z O) (hZ0 : Z[a0]? = some (12, 34)) (h : f12_feed n I O a0 x1 x2 x3 x4 x5 = some res) (hQ : Q (some (.int res.1)) (Z, res.2, L, O)) : CT g (d + 3) m12_feed 0 0 [.ref a0, .int x1, .int x2, .int x3, .int x4, .int x5] (Z, I, L, O) Q :=
  ct_of_ok (mt := m12_feed) (ini := false) mo12_feed.2.2.2.2 (fun h => by cases h) (Nat.le_of_ble_eq_true rfl) (o12_feed d hW hZ0 h ⟨trivial, hQ, rfl, rfl⟩)
theorem dX12_end_0 : decode cX12_end 0 = .ok (.iload_n 1, 1) := by decide +kernel
theorem dX12_end_1 : decode cX12_end 1 = .ok (.iconst 0, 1) := by decide +kernel
theorem dX12_end_2 : decode cX12_end 2 = .ok (.aload_n 0, 1) := by decide +kernel
theorem dX12_end_3 : decode cX12_end 3 = .ok (.getfield 97, 3) := by decide +kernel
theorem dX12_end_6 : decode cX12_end 6 = .ok (.invokestatic 75, 3) := by decide +kernel
theorem dX12_end_9 : decode cX12_end 9 = .ok (.ifCond .ne 5, 3) := by decide +kernel
theorem dX12_end_12 : decode cX12_end 12 = .ok (.iconst (-1), 1) := by decide +kernel
theorem dX12_end_13 : decode cX12_end 13 = .ok (.ireturn, 1) := by decide +kernel
theorem dX12_end_14 : decode cX12_end 14 = .ok (.aload_n 0, 1) := by decide +kernel
theorem dX12_end_15 : decode cX12_end 15 = .ok (.iload_n 1, 1) := by decide +kernel
theorem dX12_end_16 : decode cX12_end 16 = .ok (.putfield 97, 3) := by decide +kernel
theorem dX12_end_19 : decode cX12_end 19 = .ok (.iload_n 1, 1) := by decide +kernel
theorem dX12_end_20 : decode cX12_end 20 = .ok (.ireturn, 1) := by decide +kernel
def m12_end : pMT := (yX12_end, cX12_end, 2, some .int)
theorem mo12_end : mOK m12_end 1 := ⟨tb_i 1447 (by decide +kernel), wi_RX12, ⟨wn_RX12.1, wn_RX12.2, by decide +kernel⟩, by decide, plainFor_of_name wp_RX12⟩
theorem mv12_end : mV m12_end := ⟨tb_i 1445 (by decide +kernel), tb_i 1446 (by decide +kernel)⟩
def f12_end (I : (Nat → Nat → Int32)) (a0 : Nat) (x1 : Int32) : Option (Int32 × (Nat → Nat → Int32)) := (f12_isIn x1 (0 : Int32) (I a0 4)).bind fun r1 => (if r1 = 0 then some (((-1) : Int32), I) else bl (sI I a0 4 x1) fun I4 => some (x1, I4))
set_option maxHeartbeats 4000000 in
set_option maxRecDepth 20000 in
theorem o12_end {g : pG} {Qx : Option Value → pW → Prop} {Z : pZ} {I : (Nat → Nat → Int32)} {L : (Nat → Nat → Int64)} {O : (Nat → Nat → Option Nat)} {a0 : Nat} {x1 : Int32} {res : Int32 × (Nat → Nat → Int32)} (d : Nat) (hW : WT Z O) (hZ0 : Z[a0]? = some (12, 34)) (h : f12_end I a0 x1 = some res) (hQ : Qx (some (.int res.1)) (Z, res.2, L, O)) : Ok g (d + 3, RX12, cX12_end, 2, false, 0, 0, Z.length, pSl Z) Qx 0 [(0, .ref a0), (1, .int x1)] [] (Z, I, L, O) := by
  unfold f12_end at h
  refine ok_iload_n dX12_end_0 1 rfl ?_
  refine ok_iconst (v := 0) dX12_end_1 (by decide) ?_
  refine ok_aload_n dX12_end_2 0 rfl ?_
  refine ok_getI (ci := 12) (k := 4) dX12_end_3 flRX12_97 rfl hZ0 (by decide) ?_
  obtain ⟨r1, hr2, h⟩ := bd h
  refine ok_callS (d := ((d + 0) + 2)) (mt := m12_isIn) (mc := 0) (ms := 0) (As := [.int x1, .int 0, .int (I a0 4)]) (r := []) dX12_end_6 mo12_isIn mv12_isIn lkRX12_75 rfl rfl (Nat.le_of_ble_eq_true rfl) (by show _ + 1 ≤ d + _; omega) (Nat.le_refl _) (Nat.le_refl _) (pRt_mono ?_)
  refine k12_isIn (d + 0) hW  hr2 ?_
  intro hbr1
  show Ok g _ Qx 9 [(0, .ref a0), (1, .int x1)] [.int r1] (Z, I, L, O)
  refine ok_if_ne (t := 14) dX12_end_9 (by decide) (fun hc3 => ?_) (fun hc3 => ?_)
  · have h := (if_neg hc3).symm.trans h
    refine ok_aload_n dX12_end_14 0 rfl ?_
    refine ok_iload_n dX12_end_15 1 rfl ?_
    obtain ⟨I4, eI4, h⟩ := blE h
    refine ok_putI2 (ci := 12) (k := 4) dX12_end_16 flRX12_97 rfl (Or.inl rfl) hZ0 (by decide) eI4 ?_
    refine ok_iload_n dX12_end_19 1 rfl ?_
    cases h
    exact ok_iret dX12_end_20 hQ
  · have h := (if_pos hc3).symm.trans h
    refine ok_iconst (v := (-1)) dX12_end_12 (by decide) ?_
    cases h
    exact ok_iret dX12_end_13 hQ
theorem k12_end {g : pG} {Q : Option Value → pW → Prop} {Z : pZ} {I : (Nat → Nat → Int32)} {L : (Nat → Nat → Int64)} {O : (Nat → Nat → Option Nat)} {a0 : Nat} {x1 : Int32} {res : Int32 × (Nat → Nat → Int32)} (d : Nat) (hW : WT Z O) (hZ0 : Z[a0]? = some (12, 34)) (h : f12_end I a0 x1 = some res) (hQ : Q (some (.int res.1)) (Z, res.2, L, O)) : CT g (d + 3) m12_end 0 0 [.ref a0, .int x1] (Z, I, L, O) Q :=
  ct_of_ok (mt := m12_end) (ini := false) mo12_end.2.2.2.2 (fun h => by cases h) (Nat.le_of_ble_eq_true rfl) (o12_end d hW hZ0 h ⟨trivial, hQ, rfl, rfl⟩)
theorem dX12_byteAt_0 : decode cX12_byteAt 0 = .ok (.iload_n 1, 1) := by decide +kernel
theorem dX12_byteAt_1 : decode cX12_byteAt 1 = .ok (.aload_n 0, 1) := by decide +kernel
theorem dX12_byteAt_2 : decode cX12_byteAt 2 = .ok (.getfield 97, 3) := by decide +kernel
theorem dX12_byteAt_5 : decode cX12_byteAt 5 = .ok (.if_icmp .ge 12, 3) := by decide +kernel
theorem dX12_byteAt_8 : decode cX12_byteAt 8 = .ok (.aload_n 0, 1) := by decide +kernel
theorem dX12_byteAt_9 : decode cX12_byteAt 9 = .ok (.getfield 19, 3) := by decide +kernel
theorem dX12_byteAt_12 : decode cX12_byteAt 12 = .ok (.iload_n 1, 1) := by decide +kernel
theorem dX12_byteAt_13 : decode cX12_byteAt 13 = .ok (.iaload, 1) := by decide +kernel
theorem dX12_byteAt_14 : decode cX12_byteAt 14 = .ok (.goto 4, 3) := by decide +kernel
theorem dX12_byteAt_17 : decode cX12_byteAt 17 = .ok (.iconst (-1), 1) := by decide +kernel
theorem dX12_byteAt_18 : decode cX12_byteAt 18 = .ok (.ireturn, 1) := by decide +kernel
def m12_byteAt : pMT := (yX12_byteAt, cX12_byteAt, 2, some .int)
theorem mo12_byteAt : mOK m12_byteAt 1 := ⟨tb_i 1463 (by decide +kernel), wi_RX12, ⟨wn_RX12.1, wn_RX12.2, by decide +kernel⟩, by decide, plainFor_of_name wp_RX12⟩
theorem mv12_byteAt : mV m12_byteAt := ⟨tb_i 1462 (by decide +kernel), tb_p 63 (by decide +kernel)⟩
def f12_byteAt (I : (Nat → Nat → Int32)) (O : (Nat → Nat → Option Nat)) (a0 : Nat) (x1 : Int32) : Option (Int32) := (if (I a0 4) ≤ x1 then some (((-1) : Int32)) else (if x1 < 0 ∨ 300 ≤ x1.toNatClampNeg then none else some ((I (rO O a0 3) x1.toNatClampNeg))))
set_option maxHeartbeats 4000000 in
set_option maxRecDepth 20000 in
theorem o12_byteAt {g : pG} {Qx : Option Value → pW → Prop} {Z : pZ} {I : (Nat → Nat → Int32)} {L : (Nat → Nat → Int64)} {O : (Nat → Nat → Option Nat)} {a0 : Nat} {x1 : Int32} {res : Int32} (d : Nat) (hW : WT Z O) (hZ0 : Z[a0]? = some (12, 34)) (h : f12_byteAt I O a0 x1 = some res) (hQ : Qx (some (.int res)) (Z, I, L, O)) : Ok g (d + 2, RX12, cX12_byteAt, 2, false, 0, 0, Z.length, pSl Z) Qx 0 [(0, .ref a0), (1, .int x1)] [] (Z, I, L, O) := by
  unfold f12_byteAt at h
  refine ok_iload_n dX12_byteAt_0 1 rfl ?_
  refine ok_aload_n dX12_byteAt_1 0 rfl ?_
  refine ok_getI (ci := 12) (k := 4) dX12_byteAt_2 flRX12_97 rfl hZ0 (by decide) ?_
  refine ok_icmp_ge (t := 17) dX12_byteAt_5 (by decide) (fun hc1 => ?_) (fun hc1 => ?_)
  · have h := (if_pos hc1).symm.trans h
    refine ok_iconst (v := (-1)) dX12_byteAt_17 (by decide) ?_
    cases h
    exact ok_iret dX12_byteAt_18 hQ
  · have h := (if_neg hc1).symm.trans h
    refine ok_aload_n dX12_byteAt_8 0 rfl ?_
    have hT2 : Z[(rO O a0 3)]? = some (13, 300) := (wt_f (ci := 12) (k := 3) hW hZ0 rfl).2
    refine ok_getR (ci := 12) (k := 3) dX12_byteAt_9 flRX12_19 rfl hW hZ0 (by decide) ?_
    refine ok_iload_n dX12_byteAt_12 1 rfl ?_
    obtain ⟨hg3, h⟩ := gd h
    refine ok_iald2 (N := x1.toNatClampNeg) dX12_byteAt_13 hT2 hg3 rfl ?_
    refine ok_goto (t := 18) dX12_byteAt_14 (by decide) ?_
    cases h
    exact ok_iret dX12_byteAt_18 hQ
theorem k12_byteAt {g : pG} {Q : Option Value → pW → Prop} {Z : pZ} {I : (Nat → Nat → Int32)} {L : (Nat → Nat → Int64)} {O : (Nat → Nat → Option Nat)} {a0 : Nat} {x1 : Int32} {res : Int32} (d : Nat) (hW : WT Z O) (hZ0 : Z[a0]? = some (12, 34)) (h : f12_byteAt I O a0 x1 = some res) (hQ : Q (some (.int res)) (Z, I, L, O)) : CT g (d + 2) m12_byteAt 0 0 [.ref a0, .int x1] (Z, I, L, O) Q :=
  ct_of_ok (mt := m12_byteAt) (ini := false) mo12_byteAt.2.2.2.2 (fun h => by cases h) (Nat.le_of_ble_eq_true rfl) (o12_byteAt d hW hZ0 h ⟨trivial, hQ, rfl, rfl⟩)
theorem dX12_isLetterByte_0 : decode cX12_isLetterByte 0 = .ok (.iload_n 0, 1) := by decide +kernel
theorem dX12_isLetterByte_1 : decode cX12_isLetterByte 1 = .ok (.bipush 97, 2) := by decide +kernel
theorem dX12_isLetterByte_3 : decode cX12_isLetterByte 3 = .ok (.if_icmp .lt 9, 3) := by decide +kernel
theorem dX12_isLetterByte_6 : decode cX12_isLetterByte 6 = .ok (.iload_n 0, 1) := by decide +kernel
theorem dX12_isLetterByte_7 : decode cX12_isLetterByte 7 = .ok (.bipush 122, 2) := by decide +kernel
theorem dX12_isLetterByte_9 : decode cX12_isLetterByte 9 = .ok (.if_icmp .le 15, 3) := by decide +kernel
theorem dX12_isLetterByte_12 : decode cX12_isLetterByte 12 = .ok (.iload_n 0, 1) := by decide +kernel
theorem dX12_isLetterByte_13 : decode cX12_isLetterByte 13 = .ok (.bipush 65, 2) := by decide +kernel
theorem dX12_isLetterByte_15 : decode cX12_isLetterByte 15 = .ok (.if_icmp .lt 13, 3) := by decide +kernel
theorem dX12_isLetterByte_18 : decode cX12_isLetterByte 18 = .ok (.iload_n 0, 1) := by decide +kernel
theorem dX12_isLetterByte_19 : decode cX12_isLetterByte 19 = .ok (.bipush 90, 2) := by decide +kernel
theorem dX12_isLetterByte_21 : decode cX12_isLetterByte 21 = .ok (.if_icmp .gt 7, 3) := by decide +kernel
theorem dX12_isLetterByte_24 : decode cX12_isLetterByte 24 = .ok (.iconst 1, 1) := by decide +kernel
theorem dX12_isLetterByte_25 : decode cX12_isLetterByte 25 = .ok (.goto 4, 3) := by decide +kernel
theorem dX12_isLetterByte_28 : decode cX12_isLetterByte 28 = .ok (.iconst 0, 1) := by decide +kernel
theorem dX12_isLetterByte_29 : decode cX12_isLetterByte 29 = .ok (.ireturn, 1) := by decide +kernel
def m12_isLetterByte : pMT := (yX12_isLetterByte, cX12_isLetterByte, 1, some .boolean)
theorem mo12_isLetterByte : mOK m12_isLetterByte 1 := ⟨tb_i 1470 (by decide +kernel), wi_RX12, ⟨wn_RX12.1, wn_RX12.2, by decide +kernel⟩, by decide, plainFor_of_name wp_RX12⟩
theorem mv12_isLetterByte : mS m12_isLetterByte := (tb_i 1469 (by decide +kernel) : Cond.static yX12_isLetterByte ∈ lw_tbl)
def f12_isLetterByte (x0 : Int32) : Option (Int32) := (if x0 < (97 : Int32) then (if x0 < (65 : Int32) then some ((0 : Int32)) else (if (90 : Int32) < x0 then some ((0 : Int32)) else some ((1 : Int32)))) else (if x0 ≤ (122 : Int32) then some ((1 : Int32)) else (if x0 < (65 : Int32) then some ((0 : Int32)) else (if (90 : Int32) < x0 then some ((0 : Int32)) else some ((1 : Int32))))))
set_option maxHeartbeats 4000000 in
set_option maxRecDepth 20000 in
theorem o12_isLetterByte {g : pG} {Qx : Option Value → pW → Prop} {Z : pZ} {I : (Nat → Nat → Int32)} {L : (Nat → Nat → Int64)} {O : (Nat → Nat → Option Nat)} {x0 : Int32} {res : Int32} (d : Nat) (hW : WT Z O) (h : f12_isLetterByte x0 = some res) (hQ : (res = 0 ∨ res = 1) → Qx (some (.int res)) (Z, I, L, O)) : Ok g (d + 2, RX12, cX12_isLetterByte, 1, false, 0, 0, Z.length, pSl Z) Qx 0 [(0, .int x0)] [] (Z, I, L, O) := by
  unfold f12_isLetterByte at h
  refine ok_iload_n dX12_isLetterByte_0 0 rfl ?_
  refine ok_bipush (v := 97) dX12_isLetterByte_1 (by decide) ?_
  refine ok_icmp_lt (t := 12) dX12_isLetterByte_3 (by decide) (fun hc1 => ?_) (fun hc1 => ?_)
  · have h := (if_pos hc1).symm.trans h
    refine ok_iload_n dX12_isLetterByte_12 0 rfl ?_
    refine ok_bipush (v := 65) dX12_isLetterByte_13 (by decide) ?_
    refine ok_icmp_lt (t := 28) dX12_isLetterByte_15 (by decide) (fun hc2 => ?_) (fun hc2 => ?_)
    · have h := (if_pos hc2).symm.trans h
      refine ok_iconst (v := 0) dX12_isLetterByte_28 (by decide) ?_
      cases h
      exact ok_iret dX12_isLetterByte_29 (hQ (Or.inl rfl))
    · have h := (if_neg hc2).symm.trans h
      refine ok_iload_n dX12_isLetterByte_18 0 rfl ?_
      refine ok_bipush (v := 90) dX12_isLetterByte_19 (by decide) ?_
      refine ok_icmp_gt (t := 28) dX12_isLetterByte_21 (by decide) (fun hc3 => ?_) (fun hc3 => ?_)
      · have h := (if_pos hc3).symm.trans h
        refine ok_iconst (v := 0) dX12_isLetterByte_28 (by decide) ?_
        cases h
        exact ok_iret dX12_isLetterByte_29 (hQ (Or.inl rfl))
      · have h := (if_neg hc3).symm.trans h
        refine ok_iconst (v := 1) dX12_isLetterByte_24 (by decide) ?_
        refine ok_goto (t := 29) dX12_isLetterByte_25 (by decide) ?_
        cases h
        exact ok_iret dX12_isLetterByte_29 (hQ (Or.inr rfl))
  · have h := (if_neg hc1).symm.trans h
    refine ok_iload_n dX12_isLetterByte_6 0 rfl ?_
    refine ok_bipush (v := 122) dX12_isLetterByte_7 (by decide) ?_
    refine ok_icmp_le (t := 24) dX12_isLetterByte_9 (by decide) (fun hc4 => ?_) (fun hc4 => ?_)
    · have h := (if_pos hc4).symm.trans h
      refine ok_iconst (v := 1) dX12_isLetterByte_24 (by decide) ?_
      refine ok_goto (t := 29) dX12_isLetterByte_25 (by decide) ?_
      cases h
      exact ok_iret dX12_isLetterByte_29 (hQ (Or.inr rfl))
    · have h := (if_neg hc4).symm.trans h
      refine ok_iload_n dX12_isLetterByte_12 0 rfl ?_
      refine ok_bipush (v := 65) dX12_isLetterByte_13 (by decide) ?_
      refine ok_icmp_lt (t := 28) dX12_isLetterByte_15 (by decide) (fun hc5 => ?_) (fun hc5 => ?_)
      · have h := (if_pos hc5).symm.trans h
        refine ok_iconst (v := 0) dX12_isLetterByte_28 (by decide) ?_
        cases h
        exact ok_iret dX12_isLetterByte_29 (hQ (Or.inl rfl))
      · have h := (if_neg hc5).symm.trans h
        refine ok_iload_n dX12_isLetterByte_18 0 rfl ?_
        refine ok_bipush (v := 90) dX12_isLetterByte_19 (by decide) ?_
        refine ok_icmp_gt (t := 28) dX12_isLetterByte_21 (by decide) (fun hc6 => ?_) (fun hc6 => ?_)
        · have h := (if_pos hc6).symm.trans h
          refine ok_iconst (v := 0) dX12_isLetterByte_28 (by decide) ?_
          cases h
          exact ok_iret dX12_isLetterByte_29 (hQ (Or.inl rfl))
        · have h := (if_neg hc6).symm.trans h
          refine ok_iconst (v := 1) dX12_isLetterByte_24 (by decide) ?_
          refine ok_goto (t := 29) dX12_isLetterByte_25 (by decide) ?_
          cases h
          exact ok_iret dX12_isLetterByte_29 (hQ (Or.inr rfl))
theorem k12_isLetterByte {g : pG} {Q : Option Value → pW → Prop} {Z : pZ} {I : (Nat → Nat → Int32)} {L : (Nat → Nat → Int64)} {O : (Nat → Nat → Option Nat)} {x0 : Int32} {res : Int32} (d : Nat) (hW : WT Z O) (h : f12_isLetterByte x0 = some res) (hQ : Q (some (.int res)) (Z, I, L, O)) : CT g (d + 2) m12_isLetterByte 0 0 [.int x0] (Z, I, L, O) Q :=
  ct_of_ok (mt := m12_isLetterByte) (ini := false) mo12_isLetterByte.2.2.2.2 (fun h => by cases h) (Nat.le_of_ble_eq_true rfl) (o12_isLetterByte d hW  h (fun hb => ⟨hb, hQ, rfl, rfl⟩))
theorem dX12_isFigure_0 : decode cX12_isFigure 0 = .ok (.iload_n 0, 1) := by decide +kernel
theorem dX12_isFigure_1 : decode cX12_isFigure 1 = .ok (.bipush 48, 2) := by decide +kernel
theorem dX12_isFigure_3 : decode cX12_isFigure 3 = .ok (.if_icmp .lt 13, 3) := by decide +kernel
theorem dX12_isFigure_6 : decode cX12_isFigure 6 = .ok (.iload_n 0, 1) := by decide +kernel
theorem dX12_isFigure_7 : decode cX12_isFigure 7 = .ok (.bipush 57, 2) := by decide +kernel
theorem dX12_isFigure_9 : decode cX12_isFigure 9 = .ok (.if_icmp .gt 7, 3) := by decide +kernel
theorem dX12_isFigure_12 : decode cX12_isFigure 12 = .ok (.iconst 1, 1) := by decide +kernel
theorem dX12_isFigure_13 : decode cX12_isFigure 13 = .ok (.goto 4, 3) := by decide +kernel
theorem dX12_isFigure_16 : decode cX12_isFigure 16 = .ok (.iconst 0, 1) := by decide +kernel
theorem dX12_isFigure_17 : decode cX12_isFigure 17 = .ok (.ireturn, 1) := by decide +kernel
def m12_isFigure : pMT := (yX12_isFigure, cX12_isFigure, 1, some .boolean)
theorem mo12_isFigure : mOK m12_isFigure 1 := ⟨tb_i 1466 (by decide +kernel), wi_RX12, ⟨wn_RX12.1, wn_RX12.2, by decide +kernel⟩, by decide, plainFor_of_name wp_RX12⟩
theorem mv12_isFigure : mS m12_isFigure := (tb_i 1465 (by decide +kernel) : Cond.static yX12_isFigure ∈ lw_tbl)
def f12_isFigure (x0 : Int32) : Option (Int32) := (if x0 < (48 : Int32) then some ((0 : Int32)) else (if (57 : Int32) < x0 then some ((0 : Int32)) else some ((1 : Int32))))
set_option maxHeartbeats 4000000 in
set_option maxRecDepth 20000 in
theorem o12_isFigure {g : pG} {Qx : Option Value → pW → Prop} {Z : pZ} {I : (Nat → Nat → Int32)} {L : (Nat → Nat → Int64)} {O : (Nat → Nat → Option Nat)} {x0 : Int32} {res : Int32} (d : Nat) (hW : WT Z O) (h : f12_isFigure x0 = some res) (hQ : (res = 0 ∨ res = 1) → Qx (some (.int res)) (Z, I, L, O)) : Ok g (d + 2, RX12, cX12_isFigure, 1, false, 0, 0, Z.length, pSl Z) Qx 0 [(0, .int x0)] [] (Z, I, L, O) := by
  unfold f12_isFigure at h
  refine ok_iload_n dX12_isFigure_0 0 rfl ?_
  refine ok_bipush (v := 48) dX12_isFigure_1 (by decide) ?_
  refine ok_icmp_lt (t := 16) dX12_isFigure_3 (by decide) (fun hc1 => ?_) (fun hc1 => ?_)
  · have h := (if_pos hc1).symm.trans h
    refine ok_iconst (v := 0) dX12_isFigure_16 (by decide) ?_
    cases h
    exact ok_iret dX12_isFigure_17 (hQ (Or.inl rfl))
  · have h := (if_neg hc1).symm.trans h
    refine ok_iload_n dX12_isFigure_6 0 rfl ?_
    refine ok_bipush (v := 57) dX12_isFigure_7 (by decide) ?_
    refine ok_icmp_gt (t := 16) dX12_isFigure_9 (by decide) (fun hc2 => ?_) (fun hc2 => ?_)
    · have h := (if_pos hc2).symm.trans h
      refine ok_iconst (v := 0) dX12_isFigure_16 (by decide) ?_
      cases h
      exact ok_iret dX12_isFigure_17 (hQ (Or.inl rfl))
    · have h := (if_neg hc2).symm.trans h
      refine ok_iconst (v := 1) dX12_isFigure_12 (by decide) ?_
      refine ok_goto (t := 17) dX12_isFigure_13 (by decide) ?_
      cases h
      exact ok_iret dX12_isFigure_17 (hQ (Or.inr rfl))
theorem k12_isFigure {g : pG} {Q : Option Value → pW → Prop} {Z : pZ} {I : (Nat → Nat → Int32)} {L : (Nat → Nat → Int64)} {O : (Nat → Nat → Option Nat)} {x0 : Int32} {res : Int32} (d : Nat) (hW : WT Z O) (h : f12_isFigure x0 = some res) (hQ : Q (some (.int res)) (Z, I, L, O)) : CT g (d + 2) m12_isFigure 0 0 [.int x0] (Z, I, L, O) Q :=
  ct_of_ok (mt := m12_isFigure) (ini := false) mo12_isFigure.2.2.2.2 (fun h => by cases h) (Nat.le_of_ble_eq_true rfl) (o12_isFigure d hW  h (fun hb => ⟨hb, hQ, rfl, rfl⟩))
theorem dX12_isSign_0 : decode cX12_isSign 0 = .ok (.iload_n 0, 1) := by decide +kernel
theorem dX12_isSign_1 : decode cX12_isSign 1 = .ok (.tableswitch 129 35 62 #[127, 129, 129, 129, 129, 127, 127, 127, 127, 127, 127, 129, 127, 129, 129, 129, 129, 129, 129, 129, 129, 129, 129, 129, 127, 127, 127, 127], 127) := by decide +kernel
theorem dX12_isSign_128 : decode cX12_isSign 128 = .ok (.iconst 1, 1) := by decide +kernel
theorem dX12_isSign_129 : decode cX12_isSign 129 = .ok (.ireturn, 1) := by decide +kernel
theorem dX12_isSign_130 : decode cX12_isSign 130 = .ok (.iconst 0, 1) := by decide +kernel
theorem dX12_isSign_131 : decode cX12_isSign 131 = .ok (.ireturn, 1) := by decide +kernel
def m12_isSign : pMT := (yX12_isSign, cX12_isSign, 1, some .boolean)
theorem mo12_isSign : mOK m12_isSign 1 := ⟨tb_i 1474 (by decide +kernel), wi_RX12, ⟨wn_RX12.1, wn_RX12.2, by decide +kernel⟩, by decide, plainFor_of_name wp_RX12⟩
theorem mv12_isSign : mS m12_isSign := (tb_i 1473 (by decide +kernel) : Cond.static yX12_isSign ∈ lw_tbl)
def f12_isSign (x0 : Int32) : Option (Int32) := (if x0 = 35 then some ((1 : Int32)) else (if x0 = 40 then some ((1 : Int32)) else (if x0 = 41 then some ((1 : Int32)) else (if x0 = 42 then some ((1 : Int32)) else (if x0 = 43 then some ((1 : Int32)) else (if x0 = 44 then some ((1 : Int32)) else (if x0 = 45 then some ((1 : Int32)) else (if x0 = 47 then some ((1 : Int32)) else (if x0 = 59 then some ((1 : Int32)) else (if x0 = 60 then some ((1 : Int32)) else (if x0 = 61 then some ((1 : Int32)) else (if x0 = 62 then some ((1 : Int32)) else some ((0 : Int32))))))))))))))
set_option maxHeartbeats 4000000 in
set_option maxRecDepth 20000 in
theorem o12_isSign {g : pG} {Qx : Option Value → pW → Prop} {Z : pZ} {I : (Nat → Nat → Int32)} {L : (Nat → Nat → Int64)} {O : (Nat → Nat → Option Nat)} {x0 : Int32} {res : Int32} (d : Nat) (hW : WT Z O) (h : f12_isSign x0 = some res) (hQ : (res = 0 ∨ res = 1) → Qx (some (.int res)) (Z, I, L, O)) : Ok g (d + 2, RX12, cX12_isSign, 1, false, 0, 0, Z.length, pSl Z) Qx 0 [(0, .int x0)] [] (Z, I, L, O) := by
  unfold f12_isSign at h
  refine ok_iload_n dX12_isSign_0 0 rfl ?_
  by_cases hc1 : x0 = 35
  · have h := (if_pos hc1).symm.trans h
    refine ok_tabEq (t := 128) (off := 127) dX12_isSign_1 hc1 (by decide) (by decide) (by decide) (by decide) ?_
    refine ok_iconst (v := 1) dX12_isSign_128 (by decide) ?_
    cases h
    exact ok_iret dX12_isSign_129 (hQ (Or.inr rfl))
  · have h := (if_neg hc1).symm.trans h
    by_cases hc2 : x0 = 40
    · have h := (if_pos hc2).symm.trans h
      refine ok_tabEq (t := 128) (off := 127) dX12_isSign_1 hc2 (by decide) (by decide) (by decide) (by decide) ?_
      refine ok_iconst (v := 1) dX12_isSign_128 (by decide) ?_
      cases h
      exact ok_iret dX12_isSign_129 (hQ (Or.inr rfl))
    · have h := (if_neg hc2).symm.trans h
      by_cases hc3 : x0 = 41
      · have h := (if_pos hc3).symm.trans h
        refine ok_tabEq (t := 128) (off := 127) dX12_isSign_1 hc3 (by decide) (by decide) (by decide) (by decide) ?_
        refine ok_iconst (v := 1) dX12_isSign_128 (by decide) ?_
        cases h
        exact ok_iret dX12_isSign_129 (hQ (Or.inr rfl))
      · have h := (if_neg hc3).symm.trans h
        by_cases hc4 : x0 = 42
        · have h := (if_pos hc4).symm.trans h
          refine ok_tabEq (t := 128) (off := 127) dX12_isSign_1 hc4 (by decide) (by decide) (by decide) (by decide) ?_
          refine ok_iconst (v := 1) dX12_isSign_128 (by decide) ?_
          cases h
          exact ok_iret dX12_isSign_129 (hQ (Or.inr rfl))
        · have h := (if_neg hc4).symm.trans h
          by_cases hc5 : x0 = 43
          · have h := (if_pos hc5).symm.trans h
            refine ok_tabEq (t := 128) (off := 127) dX12_isSign_1 hc5 (by decide) (by decide) (by decide) (by decide) ?_
            refine ok_iconst (v := 1) dX12_isSign_128 (by decide) ?_
            cases h
            exact ok_iret dX12_isSign_129 (hQ (Or.inr rfl))
          · have h := (if_neg hc5).symm.trans h
            by_cases hc6 : x0 = 44
            · have h := (if_pos hc6).symm.trans h
              refine ok_tabEq (t := 128) (off := 127) dX12_isSign_1 hc6 (by decide) (by decide) (by decide) (by decide) ?_
              refine ok_iconst (v := 1) dX12_isSign_128 (by decide) ?_
              cases h
              exact ok_iret dX12_isSign_129 (hQ (Or.inr rfl))
            · have h := (if_neg hc6).symm.trans h
              by_cases hc7 : x0 = 45
              · have h := (if_pos hc7).symm.trans h
                refine ok_tabEq (t := 128) (off := 127) dX12_isSign_1 hc7 (by decide) (by decide) (by decide) (by decide) ?_
                refine ok_iconst (v := 1) dX12_isSign_128 (by decide) ?_
                cases h
                exact ok_iret dX12_isSign_129 (hQ (Or.inr rfl))
              · have h := (if_neg hc7).symm.trans h
                by_cases hc8 : x0 = 47
                · have h := (if_pos hc8).symm.trans h
                  refine ok_tabEq (t := 128) (off := 127) dX12_isSign_1 hc8 (by decide) (by decide) (by decide) (by decide) ?_
                  refine ok_iconst (v := 1) dX12_isSign_128 (by decide) ?_
                  cases h
                  exact ok_iret dX12_isSign_129 (hQ (Or.inr rfl))
                · have h := (if_neg hc8).symm.trans h
                  by_cases hc9 : x0 = 59
                  · have h := (if_pos hc9).symm.trans h
                    refine ok_tabEq (t := 128) (off := 127) dX12_isSign_1 hc9 (by decide) (by decide) (by decide) (by decide) ?_
                    refine ok_iconst (v := 1) dX12_isSign_128 (by decide) ?_
                    cases h
                    exact ok_iret dX12_isSign_129 (hQ (Or.inr rfl))
                  · have h := (if_neg hc9).symm.trans h
                    by_cases hc10 : x0 = 60
                    · have h := (if_pos hc10).symm.trans h
                      refine ok_tabEq (t := 128) (off := 127) dX12_isSign_1 hc10 (by decide) (by decide) (by decide) (by decide) ?_
                      refine ok_iconst (v := 1) dX12_isSign_128 (by decide) ?_
                      cases h
                      exact ok_iret dX12_isSign_129 (hQ (Or.inr rfl))
                    · have h := (if_neg hc10).symm.trans h
                      by_cases hc11 : x0 = 61
                      · have h := (if_pos hc11).symm.trans h
                        refine ok_tabEq (t := 128) (off := 127) dX12_isSign_1 hc11 (by decide) (by decide) (by decide) (by decide) ?_
                        refine ok_iconst (v := 1) dX12_isSign_128 (by decide) ?_
                        cases h
                        exact ok_iret dX12_isSign_129 (hQ (Or.inr rfl))
                      · have h := (if_neg hc11).symm.trans h
                        by_cases hc12 : x0 = 62
                        · have h := (if_pos hc12).symm.trans h
                          refine ok_tabEq (t := 128) (off := 127) dX12_isSign_1 hc12 (by decide) (by decide) (by decide) (by decide) ?_
                          refine ok_iconst (v := 1) dX12_isSign_128 (by decide) ?_
                          cases h
                          exact ok_iret dX12_isSign_129 (hQ (Or.inr rfl))
                        · have h := (if_neg hc12).symm.trans h
                          by_cases hc13 : x0 = 36
                          · refine ok_tabEq (t := 130) (off := 129) dX12_isSign_1 hc13 (by decide) (by decide) (by decide) (by decide) ?_
                            refine ok_iconst (v := 0) dX12_isSign_130 (by decide) ?_
                            cases h
                            exact ok_iret dX12_isSign_131 (hQ (Or.inl rfl))
                          · by_cases hc14 : x0 = 37
                            · refine ok_tabEq (t := 130) (off := 129) dX12_isSign_1 hc14 (by decide) (by decide) (by decide) (by decide) ?_
                              refine ok_iconst (v := 0) dX12_isSign_130 (by decide) ?_
                              cases h
                              exact ok_iret dX12_isSign_131 (hQ (Or.inl rfl))
                            · by_cases hc15 : x0 = 38
                              · refine ok_tabEq (t := 130) (off := 129) dX12_isSign_1 hc15 (by decide) (by decide) (by decide) (by decide) ?_
                                refine ok_iconst (v := 0) dX12_isSign_130 (by decide) ?_
                                cases h
                                exact ok_iret dX12_isSign_131 (hQ (Or.inl rfl))
                              · by_cases hc16 : x0 = 39
                                · refine ok_tabEq (t := 130) (off := 129) dX12_isSign_1 hc16 (by decide) (by decide) (by decide) (by decide) ?_
                                  refine ok_iconst (v := 0) dX12_isSign_130 (by decide) ?_
                                  cases h
                                  exact ok_iret dX12_isSign_131 (hQ (Or.inl rfl))
                                · by_cases hc17 : x0 = 46
                                  · refine ok_tabEq (t := 130) (off := 129) dX12_isSign_1 hc17 (by decide) (by decide) (by decide) (by decide) ?_
                                    refine ok_iconst (v := 0) dX12_isSign_130 (by decide) ?_
                                    cases h
                                    exact ok_iret dX12_isSign_131 (hQ (Or.inl rfl))
                                  · by_cases hc18 : x0 = 48
                                    · refine ok_tabEq (t := 130) (off := 129) dX12_isSign_1 hc18 (by decide) (by decide) (by decide) (by decide) ?_
                                      refine ok_iconst (v := 0) dX12_isSign_130 (by decide) ?_
                                      cases h
                                      exact ok_iret dX12_isSign_131 (hQ (Or.inl rfl))
                                    · by_cases hc19 : x0 = 49
                                      · refine ok_tabEq (t := 130) (off := 129) dX12_isSign_1 hc19 (by decide) (by decide) (by decide) (by decide) ?_
                                        refine ok_iconst (v := 0) dX12_isSign_130 (by decide) ?_
                                        cases h
                                        exact ok_iret dX12_isSign_131 (hQ (Or.inl rfl))
                                      · by_cases hc20 : x0 = 50
                                        · refine ok_tabEq (t := 130) (off := 129) dX12_isSign_1 hc20 (by decide) (by decide) (by decide) (by decide) ?_
                                          refine ok_iconst (v := 0) dX12_isSign_130 (by decide) ?_
                                          cases h
                                          exact ok_iret dX12_isSign_131 (hQ (Or.inl rfl))
                                        · by_cases hc21 : x0 = 51
                                          · refine ok_tabEq (t := 130) (off := 129) dX12_isSign_1 hc21 (by decide) (by decide) (by decide) (by decide) ?_
                                            refine ok_iconst (v := 0) dX12_isSign_130 (by decide) ?_
                                            cases h
                                            exact ok_iret dX12_isSign_131 (hQ (Or.inl rfl))
                                          · by_cases hc22 : x0 = 52
                                            · refine ok_tabEq (t := 130) (off := 129) dX12_isSign_1 hc22 (by decide) (by decide) (by decide) (by decide) ?_
                                              refine ok_iconst (v := 0) dX12_isSign_130 (by decide) ?_
                                              cases h
                                              exact ok_iret dX12_isSign_131 (hQ (Or.inl rfl))
                                            · by_cases hc23 : x0 = 53
                                              · refine ok_tabEq (t := 130) (off := 129) dX12_isSign_1 hc23 (by decide) (by decide) (by decide) (by decide) ?_
                                                refine ok_iconst (v := 0) dX12_isSign_130 (by decide) ?_
                                                cases h
                                                exact ok_iret dX12_isSign_131 (hQ (Or.inl rfl))
                                              · by_cases hc24 : x0 = 54
                                                · refine ok_tabEq (t := 130) (off := 129) dX12_isSign_1 hc24 (by decide) (by decide) (by decide) (by decide) ?_
                                                  refine ok_iconst (v := 0) dX12_isSign_130 (by decide) ?_
                                                  cases h
                                                  exact ok_iret dX12_isSign_131 (hQ (Or.inl rfl))
                                                · by_cases hc25 : x0 = 55
                                                  · refine ok_tabEq (t := 130) (off := 129) dX12_isSign_1 hc25 (by decide) (by decide) (by decide) (by decide) ?_
                                                    refine ok_iconst (v := 0) dX12_isSign_130 (by decide) ?_
                                                    cases h
                                                    exact ok_iret dX12_isSign_131 (hQ (Or.inl rfl))
                                                  · by_cases hc26 : x0 = 56
                                                    · refine ok_tabEq (t := 130) (off := 129) dX12_isSign_1 hc26 (by decide) (by decide) (by decide) (by decide) ?_
                                                      refine ok_iconst (v := 0) dX12_isSign_130 (by decide) ?_
                                                      cases h
                                                      exact ok_iret dX12_isSign_131 (hQ (Or.inl rfl))
                                                    · by_cases hc27 : x0 = 57
                                                      · refine ok_tabEq (t := 130) (off := 129) dX12_isSign_1 hc27 (by decide) (by decide) (by decide) (by decide) ?_
                                                        refine ok_iconst (v := 0) dX12_isSign_130 (by decide) ?_
                                                        cases h
                                                        exact ok_iret dX12_isSign_131 (hQ (Or.inl rfl))
                                                      · by_cases hc28 : x0 = 58
                                                        · refine ok_tabEq (t := 130) (off := 129) dX12_isSign_1 hc28 (by decide) (by decide) (by decide) (by decide) ?_
                                                          refine ok_iconst (v := 0) dX12_isSign_130 (by decide) ?_
                                                          cases h
                                                          exact ok_iret dX12_isSign_131 (hQ (Or.inl rfl))
                                                        · refine ok_tabOut (t := 130) dX12_isSign_1 (by have n35 := neI hc1 (a := 35) (by decide); have n40 := neI hc2 (a := 40) (by decide); have n41 := neI hc3 (a := 41) (by decide); have n42 := neI hc4 (a := 42) (by decide); have n43 := neI hc5 (a := 43) (by decide); have n44 := neI hc6 (a := 44) (by decide); have n45 := neI hc7 (a := 45) (by decide); have n47 := neI hc8 (a := 47) (by decide); have n59 := neI hc9 (a := 59) (by decide); have n60 := neI hc10 (a := 60) (by decide); have n61 := neI hc11 (a := 61) (by decide); have n62 := neI hc12 (a := 62) (by decide); have n36 := neI hc13 (a := 36) (by decide); have n37 := neI hc14 (a := 37) (by decide); have n38 := neI hc15 (a := 38) (by decide); have n39 := neI hc16 (a := 39) (by decide); have n46 := neI hc17 (a := 46) (by decide); have n48 := neI hc18 (a := 48) (by decide); have n49 := neI hc19 (a := 49) (by decide); have n50 := neI hc20 (a := 50) (by decide); have n51 := neI hc21 (a := 51) (by decide); have n52 := neI hc22 (a := 52) (by decide); have n53 := neI hc23 (a := 53) (by decide); have n54 := neI hc24 (a := 54) (by decide); have n55 := neI hc25 (a := 55) (by decide); have n56 := neI hc26 (a := 56) (by decide); have n57 := neI hc27 (a := 57) (by decide); have n58 := neI hc28 (a := 58) (by decide); omega) (by decide) ?_
                                                          refine ok_iconst (v := 0) dX12_isSign_130 (by decide) ?_
                                                          cases h
                                                          exact ok_iret dX12_isSign_131 (hQ (Or.inl rfl))
theorem k12_isSign {g : pG} {Q : Option Value → pW → Prop} {Z : pZ} {I : (Nat → Nat → Int32)} {L : (Nat → Nat → Int64)} {O : (Nat → Nat → Option Nat)} {x0 : Int32} {res : Int32} (d : Nat) (hW : WT Z O) (h : f12_isSign x0 = some res) (hQ : Q (some (.int res)) (Z, I, L, O)) : CT g (d + 2) m12_isSign 0 0 [.int x0] (Z, I, L, O) Q :=
  ct_of_ok (mt := m12_isSign) (ini := false) mo12_isSign.2.2.2.2 (fun h => by cases h) (Nat.le_of_ble_eq_true rfl) (o12_isSign d hW  h (fun hb => ⟨hb, hQ, rfl, rfl⟩))
theorem dX12_nextToken_0 : decode cX12_nextToken 0 = .ok (.aload_n 0, 1) := by decide +kernel
theorem dX12_nextToken_1 : decode cX12_nextToken 1 = .ok (.aload_n 0, 1) := by decide +kernel
theorem dX12_nextToken_2 : decode cX12_nextToken 2 = .ok (.getfield 104, 3) := by decide +kernel
theorem dX12_nextToken_5 : decode cX12_nextToken 5 = .ok (.invokevirtual 107, 3) := by decide +kernel
theorem dX12_nextToken_8 : decode cX12_nextToken 8 = .ok (.bipush 32, 2) := by decide +kernel
theorem dX12_nextToken_10 : decode cX12_nextToken 10 = .ok (.if_icmp .eq 16, 3) := by decide +kernel
theorem dX12_nextToken_13 : decode cX12_nextToken 13 = .ok (.aload_n 0, 1) := by decide +kernel
theorem dX12_nextToken_14 : decode cX12_nextToken 14 = .ok (.aload_n 0, 1) := by decide +kernel
theorem dX12_nextToken_15 : decode cX12_nextToken 15 = .ok (.getfield 104, 3) := by decide +kernel
theorem dX12_nextToken_18 : decode cX12_nextToken 18 = .ok (.invokevirtual 107, 3) := by decide +kernel
theorem dX12_nextToken_21 : decode cX12_nextToken 21 = .ok (.bipush 10, 2) := by decide +kernel
theorem dX12_nextToken_23 : decode cX12_nextToken 23 = .ok (.if_icmp .ne 16, 3) := by decide +kernel
theorem dX12_nextToken_26 : decode cX12_nextToken 26 = .ok (.aload_n 0, 1) := by decide +kernel
theorem dX12_nextToken_27 : decode cX12_nextToken 27 = .ok (.dup, 1) := by decide +kernel
theorem dX12_nextToken_28 : decode cX12_nextToken 28 = .ok (.getfield 104, 3) := by decide +kernel
theorem dX12_nextToken_31 : decode cX12_nextToken 31 = .ok (.iconst 1, 1) := by decide +kernel
theorem dX12_nextToken_32 : decode cX12_nextToken 32 = .ok (.iadd, 1) := by decide +kernel
theorem dX12_nextToken_33 : decode cX12_nextToken 33 = .ok (.putfield 104, 3) := by decide +kernel
theorem dX12_nextToken_36 : decode cX12_nextToken 36 = .ok (.goto (-36), 3) := by decide +kernel
theorem dX12_nextToken_39 : decode cX12_nextToken 39 = .ok (.aload_n 0, 1) := by decide +kernel
theorem dX12_nextToken_40 : decode cX12_nextToken 40 = .ok (.aload_n 0, 1) := by decide +kernel
theorem dX12_nextToken_41 : decode cX12_nextToken 41 = .ok (.getfield 104, 3) := by decide +kernel
theorem dX12_nextToken_44 : decode cX12_nextToken 44 = .ok (.putfield 111, 3) := by decide +kernel
theorem dX12_nextToken_47 : decode cX12_nextToken 47 = .ok (.aload_n 0, 1) := by decide +kernel
theorem dX12_nextToken_48 : decode cX12_nextToken 48 = .ok (.aload_n 0, 1) := by decide +kernel
theorem dX12_nextToken_49 : decode cX12_nextToken 49 = .ok (.getfield 104, 3) := by decide +kernel
theorem dX12_nextToken_52 : decode cX12_nextToken 52 = .ok (.invokevirtual 107, 3) := by decide +kernel
theorem dX12_nextToken_55 : decode cX12_nextToken 55 = .ok (.istore_n 1, 1) := by decide +kernel
theorem dX12_nextToken_56 : decode cX12_nextToken 56 = .ok (.iload_n 1, 1) := by decide +kernel
theorem dX12_nextToken_57 : decode cX12_nextToken 57 = .ok (.ifCond .ge 11, 3) := by decide +kernel
theorem dX12_nextToken_60 : decode cX12_nextToken 60 = .ok (.aload_n 0, 1) := by decide +kernel
theorem dX12_nextToken_61 : decode cX12_nextToken 61 = .ok (.iconst 0, 1) := by decide +kernel
theorem dX12_nextToken_62 : decode cX12_nextToken 62 = .ok (.putfield 114, 3) := by decide +kernel
theorem dX12_nextToken_65 : decode cX12_nextToken 65 = .ok (.goto 245, 3) := by decide +kernel
theorem dX12_nextToken_68 : decode cX12_nextToken 68 = .ok (.iload_n 1, 1) := by decide +kernel
theorem dX12_nextToken_69 : decode cX12_nextToken 69 = .ok (.invokestatic 117, 3) := by decide +kernel
theorem dX12_nextToken_72 : decode cX12_nextToken 72 = .ok (.ifCond .eq 79, 3) := by decide +kernel
theorem dX12_nextToken_75 : decode cX12_nextToken 75 = .ok (.aload_n 0, 1) := by decide +kernel
theorem dX12_nextToken_76 : decode cX12_nextToken 76 = .ok (.iconst 1, 1) := by decide +kernel
theorem dX12_nextToken_77 : decode cX12_nextToken 77 = .ok (.putfield 114, 3) := by decide +kernel
theorem dX12_nextToken_80 : decode cX12_nextToken 80 = .ok (.aload_n 0, 1) := by decide +kernel
theorem dX12_nextToken_81 : decode cX12_nextToken 81 = .ok (.iconst 0, 1) := by decide +kernel
theorem dX12_nextToken_82 : decode cX12_nextToken 82 = .ok (.putfield 120, 3) := by decide +kernel
theorem dX12_nextToken_85 : decode cX12_nextToken 85 = .ok (.aload_n 0, 1) := by decide +kernel
theorem dX12_nextToken_86 : decode cX12_nextToken 86 = .ok (.aload_n 0, 1) := by decide +kernel
theorem dX12_nextToken_87 : decode cX12_nextToken 87 = .ok (.getfield 104, 3) := by decide +kernel
theorem dX12_nextToken_90 : decode cX12_nextToken 90 = .ok (.invokevirtual 107, 3) := by decide +kernel
theorem dX12_nextToken_93 : decode cX12_nextToken 93 = .ok (.invokestatic 117, 3) := by decide +kernel
theorem dX12_nextToken_96 : decode cX12_nextToken 96 = .ok (.ifCond .eq 214, 3) := by decide +kernel
theorem dX12_nextToken_99 : decode cX12_nextToken 99 = .ok (.aload_n 0, 1) := by decide +kernel
theorem dX12_nextToken_100 : decode cX12_nextToken 100 = .ok (.aload_n 0, 1) := by decide +kernel
theorem dX12_nextToken_101 : decode cX12_nextToken 101 = .ok (.getfield 120, 3) := by decide +kernel
theorem dX12_nextToken_104 : decode cX12_nextToken 104 = .ok (.ldc 123, 2) := by decide +kernel
theorem dX12_nextToken_106 : decode cX12_nextToken 106 = .ok (.if_icmp .le 10, 3) := by decide +kernel
theorem dX12_nextToken_109 : decode cX12_nextToken 109 = .ok (.aload_n 0, 1) := by decide +kernel
theorem dX12_nextToken_110 : decode cX12_nextToken 110 = .ok (.getfield 120, 3) := by decide +kernel
theorem dX12_nextToken_113 : decode cX12_nextToken 113 = .ok (.goto 22, 3) := by decide +kernel
theorem dX12_nextToken_116 : decode cX12_nextToken 116 = .ok (.bipush 10, 2) := by decide +kernel
theorem dX12_nextToken_118 : decode cX12_nextToken 118 = .ok (.aload_n 0, 1) := by decide +kernel
theorem dX12_nextToken_119 : decode cX12_nextToken 119 = .ok (.getfield 120, 3) := by decide +kernel
theorem dX12_nextToken_122 : decode cX12_nextToken 122 = .ok (.imul, 1) := by decide +kernel
theorem dX12_nextToken_123 : decode cX12_nextToken 123 = .ok (.aload_n 0, 1) := by decide +kernel
theorem dX12_nextToken_124 : decode cX12_nextToken 124 = .ok (.aload_n 0, 1) := by decide +kernel
theorem dX12_nextToken_125 : decode cX12_nextToken 125 = .ok (.getfield 104, 3) := by decide +kernel
theorem dX12_nextToken_128 : decode cX12_nextToken 128 = .ok (.invokevirtual 107, 3) := by decide +kernel
theorem dX12_nextToken_131 : decode cX12_nextToken 131 = .ok (.iadd, 1) := by decide +kernel
theorem dX12_nextToken_132 : decode cX12_nextToken 132 = .ok (.bipush 48, 2) := by decide +kernel
theorem dX12_nextToken_134 : decode cX12_nextToken 134 = .ok (.isub, 1) := by decide +kernel
theorem dX12_nextToken_135 : decode cX12_nextToken 135 = .ok (.putfield 120, 3) := by decide +kernel
theorem dX12_nextToken_138 : decode cX12_nextToken 138 = .ok (.aload_n 0, 1) := by decide +kernel
theorem dX12_nextToken_139 : decode cX12_nextToken 139 = .ok (.dup, 1) := by decide +kernel
theorem dX12_nextToken_140 : decode cX12_nextToken 140 = .ok (.getfield 104, 3) := by decide +kernel
theorem dX12_nextToken_143 : decode cX12_nextToken 143 = .ok (.iconst 1, 1) := by decide +kernel
theorem dX12_nextToken_144 : decode cX12_nextToken 144 = .ok (.iadd, 1) := by decide +kernel
theorem dX12_nextToken_145 : decode cX12_nextToken 145 = .ok (.putfield 104, 3) := by decide +kernel
theorem dX12_nextToken_148 : decode cX12_nextToken 148 = .ok (.goto (-63), 3) := by decide +kernel
theorem dX12_nextToken_151 : decode cX12_nextToken 151 = .ok (.iload_n 1, 1) := by decide +kernel
theorem dX12_nextToken_152 : decode cX12_nextToken 152 = .ok (.invokestatic 124, 3) := by decide +kernel
theorem dX12_nextToken_155 : decode cX12_nextToken 155 = .ok (.ifCond .eq 79, 3) := by decide +kernel
theorem dX12_nextToken_158 : decode cX12_nextToken 158 = .ok (.aload_n 0, 1) := by decide +kernel
theorem dX12_nextToken_159 : decode cX12_nextToken 159 = .ok (.iconst 2, 1) := by decide +kernel
theorem dX12_nextToken_160 : decode cX12_nextToken 160 = .ok (.putfield 114, 3) := by decide +kernel
theorem dX12_nextToken_163 : decode cX12_nextToken 163 = .ok (.aload_n 0, 1) := by decide +kernel
theorem dX12_nextToken_164 : decode cX12_nextToken 164 = .ok (.lconst 0, 1) := by decide +kernel
theorem dX12_nextToken_165 : decode cX12_nextToken 165 = .ok (.putfield 127, 3) := by decide +kernel
theorem dX12_nextToken_168 : decode cX12_nextToken 168 = .ok (.aload_n 0, 1) := by decide +kernel
theorem dX12_nextToken_169 : decode cX12_nextToken 169 = .ok (.aload_n 0, 1) := by decide +kernel
theorem dX12_nextToken_170 : decode cX12_nextToken 170 = .ok (.getfield 104, 3) := by decide +kernel
theorem dX12_nextToken_173 : decode cX12_nextToken 173 = .ok (.invokevirtual 107, 3) := by decide +kernel
theorem dX12_nextToken_176 : decode cX12_nextToken 176 = .ok (.invokestatic 124, 3) := by decide +kernel
theorem dX12_nextToken_179 : decode cX12_nextToken 179 = .ok (.ifCond .eq 131, 3) := by decide +kernel
theorem dX12_nextToken_182 : decode cX12_nextToken 182 = .ok (.aload_n 0, 1) := by decide +kernel
theorem dX12_nextToken_183 : decode cX12_nextToken 183 = .ok (.aload_n 0, 1) := by decide +kernel
theorem dX12_nextToken_184 : decode cX12_nextToken 184 = .ok (.getfield 127, 3) := by decide +kernel
theorem dX12_nextToken_187 : decode cX12_nextToken 187 = .ok (.bipush 48, 2) := by decide +kernel
theorem dX12_nextToken_189 : decode cX12_nextToken 189 = .ok (.lshr, 1) := by decide +kernel
theorem dX12_nextToken_190 : decode cX12_nextToken 190 = .ok (.lconst 0, 1) := by decide +kernel
theorem dX12_nextToken_191 : decode cX12_nextToken 191 = .ok (.lcmp, 1) := by decide +kernel
theorem dX12_nextToken_192 : decode cX12_nextToken 192 = .ok (.ifCond .eq 9, 3) := by decide +kernel
theorem dX12_nextToken_195 : decode cX12_nextToken 195 = .ok (.ldc2_w 131, 3) := by decide +kernel
theorem dX12_nextToken_198 : decode cX12_nextToken 198 = .ok (.goto 20, 3) := by decide +kernel
theorem dX12_nextToken_201 : decode cX12_nextToken 201 = .ok (.aload_n 0, 1) := by decide +kernel
theorem dX12_nextToken_202 : decode cX12_nextToken 202 = .ok (.getfield 127, 3) := by decide +kernel
theorem dX12_nextToken_205 : decode cX12_nextToken 205 = .ok (.bipush 8, 2) := by decide +kernel
theorem dX12_nextToken_207 : decode cX12_nextToken 207 = .ok (.lshl, 1) := by decide +kernel
theorem dX12_nextToken_208 : decode cX12_nextToken 208 = .ok (.aload_n 0, 1) := by decide +kernel
theorem dX12_nextToken_209 : decode cX12_nextToken 209 = .ok (.aload_n 0, 1) := by decide +kernel
theorem dX12_nextToken_210 : decode cX12_nextToken 210 = .ok (.getfield 104, 3) := by decide +kernel
theorem dX12_nextToken_213 : decode cX12_nextToken 213 = .ok (.invokevirtual 107, 3) := by decide +kernel
theorem dX12_nextToken_216 : decode cX12_nextToken 216 = .ok (.i2l, 1) := by decide +kernel
theorem dX12_nextToken_217 : decode cX12_nextToken 217 = .ok (.lor, 1) := by decide +kernel
theorem dX12_nextToken_218 : decode cX12_nextToken 218 = .ok (.putfield 127, 3) := by decide +kernel
theorem dX12_nextToken_221 : decode cX12_nextToken 221 = .ok (.aload_n 0, 1) := by decide +kernel
theorem dX12_nextToken_222 : decode cX12_nextToken 222 = .ok (.dup, 1) := by decide +kernel
theorem dX12_nextToken_223 : decode cX12_nextToken 223 = .ok (.getfield 104, 3) := by decide +kernel
theorem dX12_nextToken_226 : decode cX12_nextToken 226 = .ok (.iconst 1, 1) := by decide +kernel
theorem dX12_nextToken_227 : decode cX12_nextToken 227 = .ok (.iadd, 1) := by decide +kernel
theorem dX12_nextToken_228 : decode cX12_nextToken 228 = .ok (.putfield 104, 3) := by decide +kernel
theorem dX12_nextToken_231 : decode cX12_nextToken 231 = .ok (.goto (-63), 3) := by decide +kernel
theorem dX12_nextToken_234 : decode cX12_nextToken 234 = .ok (.aload_n 0, 1) := by decide +kernel
theorem dX12_nextToken_235 : decode cX12_nextToken 235 = .ok (.iload_n 1, 1) := by decide +kernel
theorem dX12_nextToken_236 : decode cX12_nextToken 236 = .ok (.invokestatic 133, 3) := by decide +kernel
theorem dX12_nextToken_239 : decode cX12_nextToken 239 = .ok (.ifCond .eq 7, 3) := by decide +kernel
theorem dX12_nextToken_242 : decode cX12_nextToken 242 = .ok (.iload_n 1, 1) := by decide +kernel
theorem dX12_nextToken_243 : decode cX12_nextToken 243 = .ok (.goto 4, 3) := by decide +kernel
theorem dX12_nextToken_246 : decode cX12_nextToken 246 = .ok (.iconst 3, 1) := by decide +kernel
theorem dX12_nextToken_247 : decode cX12_nextToken 247 = .ok (.putfield 114, 3) := by decide +kernel
theorem dX12_nextToken_250 : decode cX12_nextToken 250 = .ok (.aload_n 0, 1) := by decide +kernel
theorem dX12_nextToken_251 : decode cX12_nextToken 251 = .ok (.dup, 1) := by decide +kernel
theorem dX12_nextToken_252 : decode cX12_nextToken 252 = .ok (.getfield 104, 3) := by decide +kernel
theorem dX12_nextToken_255 : decode cX12_nextToken 255 = .ok (.iconst 1, 1) := by decide +kernel
theorem dX12_nextToken_256 : decode cX12_nextToken 256 = .ok (.iadd, 1) := by decide +kernel
theorem dX12_nextToken_257 : decode cX12_nextToken 257 = .ok (.putfield 104, 3) := by decide +kernel
theorem dX12_nextToken_260 : decode cX12_nextToken 260 = .ok (.iload_n 1, 1) := by decide +kernel
theorem dX12_nextToken_261 : decode cX12_nextToken 261 = .ok (.bipush 60, 2) := by decide +kernel
theorem dX12_nextToken_263 : decode cX12_nextToken 263 = .ok (.if_icmp .eq 9, 3) := by decide +kernel
theorem dX12_nextToken_266 : decode cX12_nextToken 266 = .ok (.iload_n 1, 1) := by decide +kernel
theorem dX12_nextToken_267 : decode cX12_nextToken 267 = .ok (.bipush 62, 2) := by decide +kernel
theorem dX12_nextToken_269 : decode cX12_nextToken 269 = .ok (.if_icmp .ne 41, 3) := by decide +kernel
theorem dX12_nextToken_272 : decode cX12_nextToken 272 = .ok (.aload_n 0, 1) := by decide +kernel
theorem dX12_nextToken_273 : decode cX12_nextToken 273 = .ok (.aload_n 0, 1) := by decide +kernel
theorem dX12_nextToken_274 : decode cX12_nextToken 274 = .ok (.getfield 104, 3) := by decide +kernel
theorem dX12_nextToken_277 : decode cX12_nextToken 277 = .ok (.invokevirtual 107, 3) := by decide +kernel
theorem dX12_nextToken_280 : decode cX12_nextToken 280 = .ok (.bipush 61, 2) := by decide +kernel
theorem dX12_nextToken_282 : decode cX12_nextToken 282 = .ok (.if_icmp .ne 28, 3) := by decide +kernel
theorem dX12_nextToken_285 : decode cX12_nextToken 285 = .ok (.aload_n 0, 1) := by decide +kernel
theorem dX12_nextToken_286 : decode cX12_nextToken 286 = .ok (.iload_n 1, 1) := by decide +kernel
theorem dX12_nextToken_287 : decode cX12_nextToken 287 = .ok (.bipush 60, 2) := by decide +kernel
theorem dX12_nextToken_289 : decode cX12_nextToken 289 = .ok (.if_icmp .ne 7, 3) := by decide +kernel
theorem dX12_nextToken_292 : decode cX12_nextToken 292 = .ok (.iconst 4, 1) := by decide +kernel
theorem dX12_nextToken_293 : decode cX12_nextToken 293 = .ok (.goto 4, 3) := by decide +kernel
theorem dX12_nextToken_296 : decode cX12_nextToken 296 = .ok (.iconst 5, 1) := by decide +kernel
theorem dX12_nextToken_297 : decode cX12_nextToken 297 = .ok (.putfield 114, 3) := by decide +kernel
theorem dX12_nextToken_300 : decode cX12_nextToken 300 = .ok (.aload_n 0, 1) := by decide +kernel
theorem dX12_nextToken_301 : decode cX12_nextToken 301 = .ok (.dup, 1) := by decide +kernel
theorem dX12_nextToken_302 : decode cX12_nextToken 302 = .ok (.getfield 104, 3) := by decide +kernel
theorem dX12_nextToken_305 : decode cX12_nextToken 305 = .ok (.iconst 1, 1) := by decide +kernel
theorem dX12_nextToken_306 : decode cX12_nextToken 306 = .ok (.iadd, 1) := by decide +kernel
theorem dX12_nextToken_307 : decode cX12_nextToken 307 = .ok (.putfield 104, 3) := by decide +kernel
theorem dX12_nextToken_310 : decode cX12_nextToken 310 = .ok (.return_, 1) := by decide +kernel
def m12_nextToken : pMT := (yX12_nextToken, cX12_nextToken, 2, none)
theorem mo12_nextToken : mOK m12_nextToken 0 := ⟨tb_i 1459 (by decide +kernel), wi_RX12, ⟨wn_RX12.1, wn_RX12.2, by decide +kernel⟩, by decide, plainFor_of_name wp_RX12⟩
theorem mv12_nextToken : mV m12_nextToken := ⟨tb_i 1458 (by decide +kernel), tb_p 62 (by decide +kernel)⟩
def f12_nextToken_c85 (n : Nat) (O : (Nat → Nat → Option Nat)) : Nat → (Nat → Nat → Int32) → (Nat → Nat → Int64) → Nat → Option ((Nat → Nat → Int32) × (Nat → Nat → Int64))
  | 0, _, _, _ => none
  | m + 1, I, L, b0 => (f12_byteAt I O b0 (I b0 7)).bind fun r1 => (f12_isFigure r1).bind fun r3 => (if r3 = 0 then some (I, L) else (if (I b0 10) ≤ (99999 : Int32) then (f12_byteAt I O b0 (I b0 7)).bind fun r7 => bl (sI I b0 10 ((((10 : Int32) * (I b0 10)) + r7) - 48)) fun I9 => bl (sI I9 b0 7 ((I9 b0 7) + 1)) fun I10 => f12_nextToken_c85 n O m I10 L b0 else bl (sI I b0 10 (I b0 10)) fun I11 => bl (sI I11 b0 7 ((I11 b0 7) + 1)) fun I12 => f12_nextToken_c85 n O m I12 L b0))
set_option maxHeartbeats 4000000 in
set_option maxRecDepth 20000 in
theorem o12_nextToken_c85 {g : pG} {Qx : Option Value → pW → Prop} {Z : pZ} {O : (Nat → Nat → Option Nat)} {n : Nat} {res : (Nat → Nat → Int32) × (Nat → Nat → Int64)} (d : Nat) (hW : WT Z O) (hQ : Qx none (Z, res.1, res.2, O)) : ∀ (m : Nat) (I : (Nat → Nat → Int32)) (L : (Nat → Nat → Int64)) (b0 : Nat), (Z[b0]? = some (12, 34)) → f12_nextToken_c85 n O m I L b0 = some res → Ok g (d + 3, RX12, cX12_nextToken, 2, false, 0, 0, Z.length, pSl Z) Qx 85 [(0, .ref b0)] [] (Z, I, L, O) := by
  intro m
  induction m with
  | zero => intro I L b0 hZ_b0 h; rw [f12_nextToken_c85] at h; cases h
  | succ m ih =>
    intro I L b0 hZ_b0 h
    rw [f12_nextToken_c85] at h
    refine ok_aload_n dX12_nextToken_85 0 rfl ?_
    refine ok_aload_n dX12_nextToken_86 0 rfl ?_
    refine ok_getI (ci := 12) (k := 7) dX12_nextToken_87 flRX12_104 rfl hZ_b0 (by decide) ?_
    obtain ⟨r1, hr2, h⟩ := bd h
    refine ok_callV (d := ((d + 0) + 2)) (mt := m12_byteAt) (mc := 0) (ms := 0) (As := [.int (I b0 7)]) (r := []) dX12_nextToken_90 mo12_byteAt mv12_byteAt lkRX12_107 rfl hZ_b0 (q := (RX12, TX12, 34)) rfl rfl rfl (Nat.le_of_ble_eq_true rfl) (by show _ + 1 ≤ d + _; omega) (Nat.le_refl _) (Nat.le_refl _) (pRt_mono ?_)
    refine k12_byteAt (d + 0) hW hZ_b0 hr2 ?_
    intro _
    show Ok g _ Qx 93 [(0, .ref b0)] [.int r1] (Z, I, L, O)
    obtain ⟨r3, hr4, h⟩ := bd h
    refine ok_callS (d := ((d + 0) + 2)) (mt := m12_isFigure) (mc := 0) (ms := 0) (As := [.int r1]) (r := []) dX12_nextToken_93 mo12_isFigure mv12_isFigure lkRX12_117 rfl rfl (Nat.le_of_ble_eq_true rfl) (by show _ + 1 ≤ d + _; omega) (Nat.le_refl _) (Nat.le_refl _) (pRt_mono ?_)
    refine k12_isFigure (d + 0) hW  hr4 ?_
    intro hbr3
    show Ok g _ Qx 96 [(0, .ref b0)] [.int r3] (Z, I, L, O)
    refine ok_if_eq (t := 310) dX12_nextToken_96 (by decide) (fun hc5 => ?_) (fun hc5 => ?_)
    · have h := (if_pos hc5).symm.trans h
      cases h
      exact ok_vret dX12_nextToken_310 hQ
    · have h := (if_neg hc5).symm.trans h
      refine ok_aload_n dX12_nextToken_99 0 rfl ?_
      refine ok_aload_n dX12_nextToken_100 0 rfl ?_
      refine ok_getI (ci := 12) (k := 10) dX12_nextToken_101 flRX12_120 rfl hZ_b0 (by decide) ?_
      refine ok_ldc (v := 99999) dX12_nextToken_104 (tb_i (c := Cond.constant RX12 123 (99999)) 1467 (by decide +kernel)) ?_
      refine ok_icmp_le (t := 116) dX12_nextToken_106 (by decide) (fun hc6 => ?_) (fun hc6 => ?_)
      · have h := (if_pos hc6).symm.trans h
        refine ok_bipush (v := 10) dX12_nextToken_116 (by decide) ?_
        refine ok_aload_n dX12_nextToken_118 0 rfl ?_
        refine ok_getI (ci := 12) (k := 10) dX12_nextToken_119 flRX12_120 rfl hZ_b0 (by decide) ?_
        refine ok_imul dX12_nextToken_122 ?_
        refine ok_aload_n dX12_nextToken_123 0 rfl ?_
        refine ok_aload_n dX12_nextToken_124 0 rfl ?_
        refine ok_getI (ci := 12) (k := 7) dX12_nextToken_125 flRX12_104 rfl hZ_b0 (by decide) ?_
        obtain ⟨r7, hr8, h⟩ := bd h
        refine ok_callV (d := ((d + 0) + 2)) (mt := m12_byteAt) (mc := 0) (ms := 0) (As := [.int (I b0 7)]) (r := [.int ((10 : Int32) * (I b0 10)), .ref b0]) dX12_nextToken_128 mo12_byteAt mv12_byteAt lkRX12_107 rfl hZ_b0 (q := (RX12, TX12, 34)) rfl rfl rfl (Nat.le_of_ble_eq_true rfl) (by show _ + 1 ≤ d + _; omega) (Nat.le_refl _) (Nat.le_refl _) (pRt_mono ?_)
        refine k12_byteAt (d + 0) hW hZ_b0 hr8 ?_
        intro _
        show Ok g _ Qx 131 [(0, .ref b0)] [.int r7, .int ((10 : Int32) * (I b0 10)), .ref b0] (Z, I, L, O)
        refine ok_iadd dX12_nextToken_131 ?_
        refine ok_bipush (v := 48) dX12_nextToken_132 (by decide) ?_
        refine ok_isub dX12_nextToken_134 ?_
        obtain ⟨I9, eI9, h⟩ := blE h
        refine ok_putI2 (ci := 12) (k := 10) dX12_nextToken_135 flRX12_120 rfl (Or.inl rfl) hZ_b0 (by decide) eI9 ?_
        refine ok_aload_n dX12_nextToken_138 0 rfl ?_
        refine ok_dup dX12_nextToken_139 rfl ?_
        refine ok_getI (ci := 12) (k := 7) dX12_nextToken_140 flRX12_104 rfl hZ_b0 (by decide) ?_
        refine ok_iconst (v := 1) dX12_nextToken_143 (by decide) ?_
        refine ok_iadd dX12_nextToken_144 ?_
        obtain ⟨I10, eI10, h⟩ := blE h
        refine ok_putI2 (ci := 12) (k := 7) dX12_nextToken_145 flRX12_104 rfl (Or.inl rfl) hZ_b0 (by decide) eI10 ?_
        refine ok_goto (t := 85) dX12_nextToken_148 (by decide) ?_
        refine ok_sub [0] rfl ?_
        exact ih I10 L b0 hZ_b0 h
      · have h := (if_neg hc6).symm.trans h
        refine ok_aload_n dX12_nextToken_109 0 rfl ?_
        refine ok_getI (ci := 12) (k := 10) dX12_nextToken_110 flRX12_120 rfl hZ_b0 (by decide) ?_
        refine ok_goto (t := 135) dX12_nextToken_113 (by decide) ?_
        obtain ⟨I11, eI11, h⟩ := blE h
        refine ok_putI2 (ci := 12) (k := 10) dX12_nextToken_135 flRX12_120 rfl (Or.inl rfl) hZ_b0 (by decide) eI11 ?_
        refine ok_aload_n dX12_nextToken_138 0 rfl ?_
        refine ok_dup dX12_nextToken_139 rfl ?_
        refine ok_getI (ci := 12) (k := 7) dX12_nextToken_140 flRX12_104 rfl hZ_b0 (by decide) ?_
        refine ok_iconst (v := 1) dX12_nextToken_143 (by decide) ?_
        refine ok_iadd dX12_nextToken_144 ?_
        obtain ⟨I12, eI12, h⟩ := blE h
        refine ok_putI2 (ci := 12) (k := 7) dX12_nextToken_145 flRX12_104 rfl (Or.inl rfl) hZ_b0 (by decide) eI12 ?_
        refine ok_goto (t := 85) dX12_nextToken_148 (by decide) ?_
        refine ok_sub [0] rfl ?_
        exact ih I12 L b0 hZ_b0 h
def f12_nextToken_c168 (n : Nat) (O : (Nat → Nat → Option Nat)) : Nat → (Nat → Nat → Int32) → (Nat → Nat → Int64) → Nat → Option ((Nat → Nat → Int32) × (Nat → Nat → Int64))
  | 0, _, _, _ => none
  | m + 1, I, L, b0 => (f12_byteAt I O b0 (I b0 7)).bind fun r1 => (f12_isLetterByte r1).bind fun r3 => (if r3 = 0 then some (I, L) else (if (lg_cmp ((L b0 11) >>> ((48 : Int32).toInt64 &&& 63)) (0 : Int64)) = 0 then (f12_byteAt I O b0 (I b0 7)).bind fun r7 => bl (sL L b0 11 (((L b0 11) <<< ((8 : Int32).toInt64 &&& 63)) ||| r7.toInt64)) fun L9 => bl (sI I b0 7 ((I b0 7) + 1)) fun I10 => f12_nextToken_c168 n O m I10 L9 b0 else bl (sL L b0 11 (1152921504606846976 : Int64)) fun L11 => bl (sI I b0 7 ((I b0 7) + 1)) fun I12 => f12_nextToken_c168 n O m I12 L11 b0))
set_option maxHeartbeats 4000000 in
set_option maxRecDepth 20000 in
theorem o12_nextToken_c168 {g : pG} {Qx : Option Value → pW → Prop} {Z : pZ} {O : (Nat → Nat → Option Nat)} {n : Nat} {res : (Nat → Nat → Int32) × (Nat → Nat → Int64)} (d : Nat) (hW : WT Z O) (hQ : Qx none (Z, res.1, res.2, O)) : ∀ (m : Nat) (I : (Nat → Nat → Int32)) (L : (Nat → Nat → Int64)) (b0 : Nat), (Z[b0]? = some (12, 34)) → f12_nextToken_c168 n O m I L b0 = some res → Ok g (d + 3, RX12, cX12_nextToken, 2, false, 0, 0, Z.length, pSl Z) Qx 168 [(0, .ref b0)] [] (Z, I, L, O) := by
  intro m
  induction m with
  | zero => intro I L b0 hZ_b0 h; rw [f12_nextToken_c168] at h; cases h
  | succ m ih =>
    intro I L b0 hZ_b0 h
    rw [f12_nextToken_c168] at h
    refine ok_aload_n dX12_nextToken_168 0 rfl ?_
    refine ok_aload_n dX12_nextToken_169 0 rfl ?_
    refine ok_getI (ci := 12) (k := 7) dX12_nextToken_170 flRX12_104 rfl hZ_b0 (by decide) ?_
    obtain ⟨r1, hr2, h⟩ := bd h
    refine ok_callV (d := ((d + 0) + 2)) (mt := m12_byteAt) (mc := 0) (ms := 0) (As := [.int (I b0 7)]) (r := []) dX12_nextToken_173 mo12_byteAt mv12_byteAt lkRX12_107 rfl hZ_b0 (q := (RX12, TX12, 34)) rfl rfl rfl (Nat.le_of_ble_eq_true rfl) (by show _ + 1 ≤ d + _; omega) (Nat.le_refl _) (Nat.le_refl _) (pRt_mono ?_)
    refine k12_byteAt (d + 0) hW hZ_b0 hr2 ?_
    intro _
    show Ok g _ Qx 176 [(0, .ref b0)] [.int r1] (Z, I, L, O)
    obtain ⟨r3, hr4, h⟩ := bd h
    refine ok_callS (d := ((d + 0) + 2)) (mt := m12_isLetterByte) (mc := 0) (ms := 0) (As := [.int r1]) (r := []) dX12_nextToken_176 mo12_isLetterByte mv12_isLetterByte lkRX12_124 rfl rfl (Nat.le_of_ble_eq_true rfl) (by show _ + 1 ≤ d + _; omega) (Nat.le_refl _) (Nat.le_refl _) (pRt_mono ?_)
    refine k12_isLetterByte (d + 0) hW  hr4 ?_
    intro hbr3
    show Ok g _ Qx 179 [(0, .ref b0)] [.int r3] (Z, I, L, O)
    refine ok_if_eq (t := 310) dX12_nextToken_179 (by decide) (fun hc5 => ?_) (fun hc5 => ?_)
    · have h := (if_pos hc5).symm.trans h
      cases h
      exact ok_vret dX12_nextToken_310 hQ
    · have h := (if_neg hc5).symm.trans h
      refine ok_aload_n dX12_nextToken_182 0 rfl ?_
      refine ok_aload_n dX12_nextToken_183 0 rfl ?_
      refine ok_getJ (ci := 12) (k := 11) dX12_nextToken_184 flRX12_127 rfl hZ_b0 (by decide) ?_
      refine ok_bipush (v := 48) dX12_nextToken_187 (by decide) ?_
      refine ok_lshr dX12_nextToken_189 ?_
      refine ok_lconst (v := 0) dX12_nextToken_190 (by decide) ?_
      refine ok_lcmp dX12_nextToken_191 ?_
      refine ok_if_eq (t := 201) dX12_nextToken_192 (by decide) (fun hc6 => ?_) (fun hc6 => ?_)
      · have h := (if_pos hc6).symm.trans h
        refine ok_aload_n dX12_nextToken_201 0 rfl ?_
        refine ok_getJ (ci := 12) (k := 11) dX12_nextToken_202 flRX12_127 rfl hZ_b0 (by decide) ?_
        refine ok_bipush (v := 8) dX12_nextToken_205 (by decide) ?_
        refine ok_lshl dX12_nextToken_207 ?_
        refine ok_aload_n dX12_nextToken_208 0 rfl ?_
        refine ok_aload_n dX12_nextToken_209 0 rfl ?_
        refine ok_getI (ci := 12) (k := 7) dX12_nextToken_210 flRX12_104 rfl hZ_b0 (by decide) ?_
        obtain ⟨r7, hr8, h⟩ := bd h
        refine ok_callV (d := ((d + 0) + 2)) (mt := m12_byteAt) (mc := 0) (ms := 0) (As := [.int (I b0 7)]) (r := [.long ((L b0 11) <<< ((8 : Int32).toInt64 &&& 63)), .ref b0]) dX12_nextToken_213 mo12_byteAt mv12_byteAt lkRX12_107 rfl hZ_b0 (q := (RX12, TX12, 34)) rfl rfl rfl (Nat.le_of_ble_eq_true rfl) (by show _ + 1 ≤ d + _; omega) (Nat.le_refl _) (Nat.le_refl _) (pRt_mono ?_)
        refine k12_byteAt (d + 0) hW hZ_b0 hr8 ?_
        intro _
        show Ok g _ Qx 216 [(0, .ref b0)] [.int r7, .long ((L b0 11) <<< ((8 : Int32).toInt64 &&& 63)), .ref b0] (Z, I, L, O)
        refine ok_i2l dX12_nextToken_216 ?_
        refine ok_lor dX12_nextToken_217 ?_
        obtain ⟨L9, eL9, h⟩ := blE h
        refine ok_putJ2 (ci := 12) (k := 11) dX12_nextToken_218 flRX12_127 rfl (Or.inl rfl) hZ_b0 (by decide) eL9 ?_
        refine ok_aload_n dX12_nextToken_221 0 rfl ?_
        refine ok_dup dX12_nextToken_222 rfl ?_
        refine ok_getI (ci := 12) (k := 7) dX12_nextToken_223 flRX12_104 rfl hZ_b0 (by decide) ?_
        refine ok_iconst (v := 1) dX12_nextToken_226 (by decide) ?_
        refine ok_iadd dX12_nextToken_227 ?_
        obtain ⟨I10, eI10, h⟩ := blE h
        refine ok_putI2 (ci := 12) (k := 7) dX12_nextToken_228 flRX12_104 rfl (Or.inl rfl) hZ_b0 (by decide) eI10 ?_
        refine ok_goto (t := 168) dX12_nextToken_231 (by decide) ?_
        refine ok_sub [0] rfl ?_
        exact ih I10 L9 b0 hZ_b0 h
      · have h := (if_neg hc6).symm.trans h
        refine ok_ldc2 (v := 1152921504606846976) dX12_nextToken_195 (tb_i (c := Cond.constantLong RX12 131 (1152921504606846976)) 1471 (by decide +kernel)) ?_
        refine ok_goto (t := 218) dX12_nextToken_198 (by decide) ?_
        obtain ⟨L11, eL11, h⟩ := blE h
        refine ok_putJ2 (ci := 12) (k := 11) dX12_nextToken_218 flRX12_127 rfl (Or.inl rfl) hZ_b0 (by decide) eL11 ?_
        refine ok_aload_n dX12_nextToken_221 0 rfl ?_
        refine ok_dup dX12_nextToken_222 rfl ?_
        refine ok_getI (ci := 12) (k := 7) dX12_nextToken_223 flRX12_104 rfl hZ_b0 (by decide) ?_
        refine ok_iconst (v := 1) dX12_nextToken_226 (by decide) ?_
        refine ok_iadd dX12_nextToken_227 ?_
        obtain ⟨I12, eI12, h⟩ := blE h
        refine ok_putI2 (ci := 12) (k := 7) dX12_nextToken_228 flRX12_104 rfl (Or.inl rfl) hZ_b0 (by decide) eI12 ?_
        refine ok_goto (t := 168) dX12_nextToken_231 (by decide) ?_
        refine ok_sub [0] rfl ?_
        exact ih I12 L11 b0 hZ_b0 h
def f12_nextToken_c272 (n : Nat) (O : (Nat → Nat → Option Nat)) (I : (Nat → Nat → Int32)) (L : (Nat → Nat → Int64)) (b0 : Nat) (y1 : Int32) : Option ((Nat → Nat → Int32) × (Nat → Nat → Int64)) := (f12_byteAt I O b0 (I b0 7)).bind fun r1 => (if r1 = (61 : Int32) then (if y1 = (60 : Int32) then bl (sI I b0 9 (4 : Int32)) fun I7 => bl (sI I7 b0 7 ((I7 b0 7) + 1)) fun I8 => some (I8, L) else bl (sI I b0 9 (5 : Int32)) fun I5 => bl (sI I5 b0 7 ((I5 b0 7) + 1)) fun I6 => some (I6, L)) else some (I, L))
set_option maxHeartbeats 4000000 in
set_option maxRecDepth 20000 in
theorem o12_nextToken_c272 {g : pG} {Qx : Option Value → pW → Prop} {Z : pZ} {O : (Nat → Nat → Option Nat)} {n : Nat} {res : (Nat → Nat → Int32) × (Nat → Nat → Int64)} (d : Nat) (hW : WT Z O) (hQ : Qx none (Z, res.1, res.2, O)) (I : (Nat → Nat → Int32)) (L : (Nat → Nat → Int64)) (b0 : Nat) (y1 : Int32) (hZ_b0 : Z[b0]? = some (12, 34)) (h : f12_nextToken_c272 n O I L b0 y1 = some res) : Ok g (d + 3, RX12, cX12_nextToken, 2, false, 0, 0, Z.length, pSl Z) Qx 272 [(0, .ref b0), (1, .int y1)] [] (Z, I, L, O) := by
  unfold f12_nextToken_c272 at h
  refine ok_aload_n dX12_nextToken_272 0 rfl ?_
  refine ok_aload_n dX12_nextToken_273 0 rfl ?_
  refine ok_getI (ci := 12) (k := 7) dX12_nextToken_274 flRX12_104 rfl hZ_b0 (by decide) ?_
  obtain ⟨r1, hr2, h⟩ := bd h
  refine ok_callV (d := ((d + 0) + 2)) (mt := m12_byteAt) (mc := 0) (ms := 0) (As := [.int (I b0 7)]) (r := []) dX12_nextToken_277 mo12_byteAt mv12_byteAt lkRX12_107 rfl hZ_b0 (q := (RX12, TX12, 34)) rfl rfl rfl (Nat.le_of_ble_eq_true rfl) (by show _ + 1 ≤ d + _; omega) (Nat.le_refl _) (Nat.le_refl _) (pRt_mono ?_)
  refine k12_byteAt (d + 0) hW hZ_b0 hr2 ?_
  intro _
  show Ok g _ Qx 280 [(0, .ref b0), (1, .int y1)] [.int r1] (Z, I, L, O)
  refine ok_bipush (v := 61) dX12_nextToken_280 (by decide) ?_
  refine ok_icmp_ne (t := 310) dX12_nextToken_282 (by decide) (fun hc3 => ?_) (fun hc3 => ?_)
  · have h := (if_neg hc3).symm.trans h
    cases h
    exact ok_vret dX12_nextToken_310 hQ
  · have h := (if_pos hc3).symm.trans h
    refine ok_aload_n dX12_nextToken_285 0 rfl ?_
    refine ok_iload_n dX12_nextToken_286 1 rfl ?_
    refine ok_bipush (v := 60) dX12_nextToken_287 (by decide) ?_
    refine ok_icmp_ne (t := 296) dX12_nextToken_289 (by decide) (fun hc4 => ?_) (fun hc4 => ?_)
    · have h := (if_neg hc4).symm.trans h
      refine ok_iconst (v := 5) dX12_nextToken_296 (by decide) ?_
      obtain ⟨I5, eI5, h⟩ := blE h
      refine ok_putI2 (ci := 12) (k := 9) dX12_nextToken_297 flRX12_114 rfl (Or.inl rfl) hZ_b0 (by decide) eI5 ?_
      refine ok_aload_n dX12_nextToken_300 0 rfl ?_
      refine ok_dup dX12_nextToken_301 rfl ?_
      refine ok_getI (ci := 12) (k := 7) dX12_nextToken_302 flRX12_104 rfl hZ_b0 (by decide) ?_
      refine ok_iconst (v := 1) dX12_nextToken_305 (by decide) ?_
      refine ok_iadd dX12_nextToken_306 ?_
      obtain ⟨I6, eI6, h⟩ := blE h
      refine ok_putI2 (ci := 12) (k := 7) dX12_nextToken_307 flRX12_104 rfl (Or.inl rfl) hZ_b0 (by decide) eI6 ?_
      cases h
      exact ok_vret dX12_nextToken_310 hQ
    · have h := (if_pos hc4).symm.trans h
      refine ok_iconst (v := 4) dX12_nextToken_292 (by decide) ?_
      refine ok_goto (t := 297) dX12_nextToken_293 (by decide) ?_
      obtain ⟨I7, eI7, h⟩ := blE h
      refine ok_putI2 (ci := 12) (k := 9) dX12_nextToken_297 flRX12_114 rfl (Or.inl rfl) hZ_b0 (by decide) eI7 ?_
      refine ok_aload_n dX12_nextToken_300 0 rfl ?_
      refine ok_dup dX12_nextToken_301 rfl ?_
      refine ok_getI (ci := 12) (k := 7) dX12_nextToken_302 flRX12_104 rfl hZ_b0 (by decide) ?_
      refine ok_iconst (v := 1) dX12_nextToken_305 (by decide) ?_
      refine ok_iadd dX12_nextToken_306 ?_
      obtain ⟨I8, eI8, h⟩ := blE h
      refine ok_putI2 (ci := 12) (k := 7) dX12_nextToken_307 flRX12_104 rfl (Or.inl rfl) hZ_b0 (by decide) eI8 ?_
      cases h
      exact ok_vret dX12_nextToken_310 hQ
def f12_nextToken_c247 (n : Nat) (O : (Nat → Nat → Option Nat)) (I : (Nat → Nat → Int32)) (L : (Nat → Nat → Int64)) (b0 : Nat) (y1 : Int32) (t0 : Int32) (t1 : Nat) : Option ((Nat → Nat → Int32) × (Nat → Nat → Int64)) := bl (sI I t1 9 t0) fun I1 => bl (sI I1 b0 7 ((I1 b0 7) + 1)) fun I2 => (if y1 = (60 : Int32) then f12_nextToken_c272 n O I2 L b0 y1 else (if y1 = (62 : Int32) then f12_nextToken_c272 n O I2 L b0 y1 else some (I2, L)))
set_option maxHeartbeats 4000000 in
set_option maxRecDepth 20000 in
theorem o12_nextToken_c247 {g : pG} {Qx : Option Value → pW → Prop} {Z : pZ} {O : (Nat → Nat → Option Nat)} {n : Nat} {res : (Nat → Nat → Int32) × (Nat → Nat → Int64)} (d : Nat) (hW : WT Z O) (hQ : Qx none (Z, res.1, res.2, O)) (I : (Nat → Nat → Int32)) (L : (Nat → Nat → Int64)) (b0 : Nat) (y1 : Int32) (t0 : Int32) (t1 : Nat) (hZ_b0 : Z[b0]? = some (12, 34)) (hZ_t1 : Z[t1]? = some (12, 34)) (h : f12_nextToken_c247 n O I L b0 y1 t0 t1 = some res) : Ok g (d + 3, RX12, cX12_nextToken, 2, false, 0, 0, Z.length, pSl Z) Qx 247 [(0, .ref b0), (1, .int y1)] [.int t0, .ref t1] (Z, I, L, O) := by
  unfold f12_nextToken_c247 at h
  obtain ⟨I1, eI1, h⟩ := blE h
  refine ok_putI2 (ci := 12) (k := 9) dX12_nextToken_247 flRX12_114 rfl (Or.inl rfl) hZ_t1 (by decide) eI1 ?_
  refine ok_aload_n dX12_nextToken_250 0 rfl ?_
  refine ok_dup dX12_nextToken_251 rfl ?_
  refine ok_getI (ci := 12) (k := 7) dX12_nextToken_252 flRX12_104 rfl hZ_b0 (by decide) ?_
  refine ok_iconst (v := 1) dX12_nextToken_255 (by decide) ?_
  refine ok_iadd dX12_nextToken_256 ?_
  obtain ⟨I2, eI2, h⟩ := blE h
  refine ok_putI2 (ci := 12) (k := 7) dX12_nextToken_257 flRX12_104 rfl (Or.inl rfl) hZ_b0 (by decide) eI2 ?_
  refine ok_iload_n dX12_nextToken_260 1 rfl ?_
  refine ok_bipush (v := 60) dX12_nextToken_261 (by decide) ?_
  refine ok_icmp_eq (t := 272) dX12_nextToken_263 (by decide) (fun hc3 => ?_) (fun hc3 => ?_)
  · have h := (if_pos hc3).symm.trans h
    refine ok_sub [0, 1] rfl ?_
    exact o12_nextToken_c272 d hW hQ  I2 L b0 y1 hZ_b0 h
  · have h := (if_neg hc3).symm.trans h
    refine ok_iload_n dX12_nextToken_266 1 rfl ?_
    refine ok_bipush (v := 62) dX12_nextToken_267 (by decide) ?_
    refine ok_icmp_ne (t := 310) dX12_nextToken_269 (by decide) (fun hc4 => ?_) (fun hc4 => ?_)
    · have h := (if_neg hc4).symm.trans h
      cases h
      exact ok_vret dX12_nextToken_310 hQ
    · have h := (if_pos hc4).symm.trans h
      refine ok_sub [0, 1] rfl ?_
      exact o12_nextToken_c272 d hW hQ  I2 L b0 y1 hZ_b0 h
def f12_nextToken_c0 (n : Nat) (O : (Nat → Nat → Option Nat)) : Nat → (Nat → Nat → Int32) → (Nat → Nat → Int64) → Nat → Option ((Nat → Nat → Int32) × (Nat → Nat → Int64))
  | 0, _, _, _ => none
  | m + 1, I, L, b0 => (f12_byteAt I O b0 (I b0 7)).bind fun r1 => (if r1 = (32 : Int32) then bl (sI I b0 7 ((I b0 7) + 1)) fun I4 => f12_nextToken_c0 n O m I4 L b0 else (f12_byteAt I O b0 (I b0 7)).bind fun r5 => (if r5 = (10 : Int32) then bl (sI I b0 7 ((I b0 7) + 1)) fun I26 => f12_nextToken_c0 n O m I26 L b0 else bl (sI I b0 8 (I b0 7)) fun I8 => (f12_byteAt I8 O b0 (I8 b0 7)).bind fun r9 => (if 0 ≤ r9 then (f12_isFigure r9).bind fun r12 => (if r12 = 0 then (f12_isLetterByte r9).bind fun r15 => (if r15 = 0 then (f12_isSign r9).bind fun r18 => (if r18 = 0 then f12_nextToken_c247 n O I8 L b0 r9 (3 : Int32) b0 else f12_nextToken_c247 n O I8 L b0 r9 r9 b0) else bl (sI I8 b0 9 (2 : Int32)) fun I21 => bl (sL L b0 11 (0 : Int64)) fun L22 => f12_nextToken_c168 n O n I21 L22 b0) else bl (sI I8 b0 9 (1 : Int32)) fun I23 => bl (sI I23 b0 10 (0 : Int32)) fun I24 => f12_nextToken_c85 n O n I24 L b0) else bl (sI I8 b0 9 (0 : Int32)) fun I25 => some (I25, L))))
set_option maxHeartbeats 4000000 in
set_option maxRecDepth 20000 in
theorem o12_nextToken_c0 {g : pG} {Qx : Option Value → pW → Prop} {Z : pZ} {O : (Nat → Nat → Option Nat)} {n : Nat} {res : (Nat → Nat → Int32) × (Nat → Nat → Int64)} (d : Nat) (hW : WT Z O) (hQ : Qx none (Z, res.1, res.2, O)) : ∀ (m : Nat) (I : (Nat → Nat → Int32)) (L : (Nat → Nat → Int64)) (b0 : Nat), (Z[b0]? = some (12, 34)) → f12_nextToken_c0 n O m I L b0 = some res → Ok g (d + 3, RX12, cX12_nextToken, 2, false, 0, 0, Z.length, pSl Z) Qx 0 [(0, .ref b0)] [] (Z, I, L, O) := by
  intro m
  induction m with
  | zero => intro I L b0 hZ_b0 h; rw [f12_nextToken_c0] at h; cases h
  | succ m ih =>
    intro I L b0 hZ_b0 h
    rw [f12_nextToken_c0] at h
    refine ok_aload_n dX12_nextToken_0 0 rfl ?_
    refine ok_aload_n dX12_nextToken_1 0 rfl ?_
    refine ok_getI (ci := 12) (k := 7) dX12_nextToken_2 flRX12_104 rfl hZ_b0 (by decide) ?_
    obtain ⟨r1, hr2, h⟩ := bd h
    refine ok_callV (d := ((d + 0) + 2)) (mt := m12_byteAt) (mc := 0) (ms := 0) (As := [.int (I b0 7)]) (r := []) dX12_nextToken_5 mo12_byteAt mv12_byteAt lkRX12_107 rfl hZ_b0 (q := (RX12, TX12, 34)) rfl rfl rfl (Nat.le_of_ble_eq_true rfl) (by show _ + 1 ≤ d + _; omega) (Nat.le_refl _) (Nat.le_refl _) (pRt_mono ?_)
    refine k12_byteAt (d + 0) hW hZ_b0 hr2 ?_
    intro _
    show Ok g _ Qx 8 [(0, .ref b0)] [.int r1] (Z, I, L, O)
    refine ok_bipush (v := 32) dX12_nextToken_8 (by decide) ?_
    refine ok_icmp_eq (t := 26) dX12_nextToken_10 (by decide) (fun hc3 => ?_) (fun hc3 => ?_)
    · have h := (if_pos hc3).symm.trans h
      refine ok_aload_n dX12_nextToken_26 0 rfl ?_
      refine ok_dup dX12_nextToken_27 rfl ?_
      refine ok_getI (ci := 12) (k := 7) dX12_nextToken_28 flRX12_104 rfl hZ_b0 (by decide) ?_
      refine ok_iconst (v := 1) dX12_nextToken_31 (by decide) ?_
      refine ok_iadd dX12_nextToken_32 ?_
      obtain ⟨I4, eI4, h⟩ := blE h
      refine ok_putI2 (ci := 12) (k := 7) dX12_nextToken_33 flRX12_104 rfl (Or.inl rfl) hZ_b0 (by decide) eI4 ?_
      refine ok_goto (t := 0) dX12_nextToken_36 (by decide) ?_
      refine ok_sub [0] rfl ?_
      exact ih I4 L b0 hZ_b0 h
    · have h := (if_neg hc3).symm.trans h
      refine ok_aload_n dX12_nextToken_13 0 rfl ?_
      refine ok_aload_n dX12_nextToken_14 0 rfl ?_
      refine ok_getI (ci := 12) (k := 7) dX12_nextToken_15 flRX12_104 rfl hZ_b0 (by decide) ?_
      obtain ⟨r5, hr6, h⟩ := bd h
      refine ok_callV (d := ((d + 0) + 2)) (mt := m12_byteAt) (mc := 0) (ms := 0) (As := [.int (I b0 7)]) (r := []) dX12_nextToken_18 mo12_byteAt mv12_byteAt lkRX12_107 rfl hZ_b0 (q := (RX12, TX12, 34)) rfl rfl rfl (Nat.le_of_ble_eq_true rfl) (by show _ + 1 ≤ d + _; omega) (Nat.le_refl _) (Nat.le_refl _) (pRt_mono ?_)
      refine k12_byteAt (d + 0) hW hZ_b0 hr6 ?_
      intro _
      show Ok g _ Qx 21 [(0, .ref b0)] [.int r5] (Z, I, L, O)
      refine ok_bipush (v := 10) dX12_nextToken_21 (by decide) ?_
      refine ok_icmp_ne (t := 39) dX12_nextToken_23 (by decide) (fun hc7 => ?_) (fun hc7 => ?_)
      · have h := (if_neg hc7).symm.trans h
        refine ok_aload_n dX12_nextToken_39 0 rfl ?_
        refine ok_aload_n dX12_nextToken_40 0 rfl ?_
        refine ok_getI (ci := 12) (k := 7) dX12_nextToken_41 flRX12_104 rfl hZ_b0 (by decide) ?_
        obtain ⟨I8, eI8, h⟩ := blE h
        refine ok_putI2 (ci := 12) (k := 8) dX12_nextToken_44 flRX12_111 rfl (Or.inl rfl) hZ_b0 (by decide) eI8 ?_
        refine ok_aload_n dX12_nextToken_47 0 rfl ?_
        refine ok_aload_n dX12_nextToken_48 0 rfl ?_
        refine ok_getI (ci := 12) (k := 7) dX12_nextToken_49 flRX12_104 rfl hZ_b0 (by decide) ?_
        obtain ⟨r9, hr10, h⟩ := bd h
        refine ok_callV (d := ((d + 0) + 2)) (mt := m12_byteAt) (mc := 0) (ms := 0) (As := [.int (I8 b0 7)]) (r := []) dX12_nextToken_52 mo12_byteAt mv12_byteAt lkRX12_107 rfl hZ_b0 (q := (RX12, TX12, 34)) rfl rfl rfl (Nat.le_of_ble_eq_true rfl) (by show _ + 1 ≤ d + _; omega) (Nat.le_refl _) (Nat.le_refl _) (pRt_mono ?_)
        refine k12_byteAt (d + 0) hW hZ_b0 hr10 ?_
        intro _
        show Ok g _ Qx 55 [(0, .ref b0)] [.int r9] (Z, I8, L, O)
        refine ok_istore_n (l' := [(1, .int r9), (0, .ref b0)]) dX12_nextToken_55 rfl (Nat.le_of_ble_eq_true rfl) rfl ?_
        refine ok_iload_n dX12_nextToken_56 0 rfl ?_
        refine ok_if_ge (t := 68) dX12_nextToken_57 (by decide) (fun hc11 => ?_) (fun hc11 => ?_)
        · have h := (if_pos hc11).symm.trans h
          refine ok_iload_n dX12_nextToken_68 0 rfl ?_
          obtain ⟨r12, hr13, h⟩ := bd h
          refine ok_callS (d := ((d + 0) + 2)) (mt := m12_isFigure) (mc := 0) (ms := 0) (As := [.int r9]) (r := []) dX12_nextToken_69 mo12_isFigure mv12_isFigure lkRX12_117 rfl rfl (Nat.le_of_ble_eq_true rfl) (by show _ + 1 ≤ d + _; omega) (Nat.le_refl _) (Nat.le_refl _) (pRt_mono ?_)
          refine k12_isFigure (d + 0) hW  hr13 ?_
          intro hbr12
          show Ok g _ Qx 72 [(1, .int r9), (0, .ref b0)] [.int r12] (Z, I8, L, O)
          refine ok_if_eq (t := 151) dX12_nextToken_72 (by decide) (fun hc14 => ?_) (fun hc14 => ?_)
          · have h := (if_pos hc14).symm.trans h
            refine ok_iload_n dX12_nextToken_151 0 rfl ?_
            obtain ⟨r15, hr16, h⟩ := bd h
            refine ok_callS (d := ((d + 0) + 2)) (mt := m12_isLetterByte) (mc := 0) (ms := 0) (As := [.int r9]) (r := []) dX12_nextToken_152 mo12_isLetterByte mv12_isLetterByte lkRX12_124 rfl rfl (Nat.le_of_ble_eq_true rfl) (by show _ + 1 ≤ d + _; omega) (Nat.le_refl _) (Nat.le_refl _) (pRt_mono ?_)
            refine k12_isLetterByte (d + 0) hW  hr16 ?_
            intro hbr15
            show Ok g _ Qx 155 [(1, .int r9), (0, .ref b0)] [.int r15] (Z, I8, L, O)
            refine ok_if_eq (t := 234) dX12_nextToken_155 (by decide) (fun hc17 => ?_) (fun hc17 => ?_)
            · have h := (if_pos hc17).symm.trans h
              refine ok_aload_n dX12_nextToken_234 1 rfl ?_
              refine ok_iload_n dX12_nextToken_235 0 rfl ?_
              obtain ⟨r18, hr19, h⟩ := bd h
              refine ok_callS (d := ((d + 0) + 2)) (mt := m12_isSign) (mc := 0) (ms := 0) (As := [.int r9]) (r := [.ref b0]) dX12_nextToken_236 mo12_isSign mv12_isSign lkRX12_133 rfl rfl (Nat.le_of_ble_eq_true rfl) (by show _ + 1 ≤ d + _; omega) (Nat.le_refl _) (Nat.le_refl _) (pRt_mono ?_)
              refine k12_isSign (d + 0) hW  hr19 ?_
              intro hbr18
              show Ok g _ Qx 239 [(1, .int r9), (0, .ref b0)] [.int r18, .ref b0] (Z, I8, L, O)
              refine ok_if_eq (t := 246) dX12_nextToken_239 (by decide) (fun hc20 => ?_) (fun hc20 => ?_)
              · have h := (if_pos hc20).symm.trans h
                refine ok_iconst (v := 3) dX12_nextToken_246 (by decide) ?_
                refine ok_sub [1, 0] rfl ?_
                exact o12_nextToken_c247 d hW hQ  I8 L b0 r9 (3 : Int32) b0 hZ_b0 hZ_b0 h
              · have h := (if_neg hc20).symm.trans h
                refine ok_iload_n dX12_nextToken_242 0 rfl ?_
                refine ok_goto (t := 247) dX12_nextToken_243 (by decide) ?_
                refine ok_sub [1, 0] rfl ?_
                exact o12_nextToken_c247 d hW hQ  I8 L b0 r9 r9 b0 hZ_b0 hZ_b0 h
            · have h := (if_neg hc17).symm.trans h
              refine ok_aload_n dX12_nextToken_158 1 rfl ?_
              refine ok_iconst (v := 2) dX12_nextToken_159 (by decide) ?_
              obtain ⟨I21, eI21, h⟩ := blE h
              refine ok_putI2 (ci := 12) (k := 9) dX12_nextToken_160 flRX12_114 rfl (Or.inl rfl) hZ_b0 (by decide) eI21 ?_
              refine ok_aload_n dX12_nextToken_163 1 rfl ?_
              refine ok_lconst (v := 0) dX12_nextToken_164 (by decide) ?_
              obtain ⟨L22, eL22, h⟩ := blE h
              refine ok_putJ2 (ci := 12) (k := 11) dX12_nextToken_165 flRX12_127 rfl (Or.inl rfl) hZ_b0 (by decide) eL22 ?_
              refine ok_sub [1] rfl ?_
              exact o12_nextToken_c168 d hW hQ  n I21 L22 b0 hZ_b0 h
          · have h := (if_neg hc14).symm.trans h
            refine ok_aload_n dX12_nextToken_75 1 rfl ?_
            refine ok_iconst (v := 1) dX12_nextToken_76 (by decide) ?_
            obtain ⟨I23, eI23, h⟩ := blE h
            refine ok_putI2 (ci := 12) (k := 9) dX12_nextToken_77 flRX12_114 rfl (Or.inl rfl) hZ_b0 (by decide) eI23 ?_
            refine ok_aload_n dX12_nextToken_80 1 rfl ?_
            refine ok_iconst (v := 0) dX12_nextToken_81 (by decide) ?_
            obtain ⟨I24, eI24, h⟩ := blE h
            refine ok_putI2 (ci := 12) (k := 10) dX12_nextToken_82 flRX12_120 rfl (Or.inl rfl) hZ_b0 (by decide) eI24 ?_
            refine ok_sub [1] rfl ?_
            exact o12_nextToken_c85 d hW hQ  n I24 L b0 hZ_b0 h
        · have h := (if_neg hc11).symm.trans h
          refine ok_aload_n dX12_nextToken_60 1 rfl ?_
          refine ok_iconst (v := 0) dX12_nextToken_61 (by decide) ?_
          obtain ⟨I25, eI25, h⟩ := blE h
          refine ok_putI2 (ci := 12) (k := 9) dX12_nextToken_62 flRX12_114 rfl (Or.inl rfl) hZ_b0 (by decide) eI25 ?_
          refine ok_goto (t := 310) dX12_nextToken_65 (by decide) ?_
          cases h
          exact ok_vret dX12_nextToken_310 hQ
      · have h := (if_pos hc7).symm.trans h
        refine ok_aload_n dX12_nextToken_26 0 rfl ?_
        refine ok_dup dX12_nextToken_27 rfl ?_
        refine ok_getI (ci := 12) (k := 7) dX12_nextToken_28 flRX12_104 rfl hZ_b0 (by decide) ?_
        refine ok_iconst (v := 1) dX12_nextToken_31 (by decide) ?_
        refine ok_iadd dX12_nextToken_32 ?_
        obtain ⟨I26, eI26, h⟩ := blE h
        refine ok_putI2 (ci := 12) (k := 7) dX12_nextToken_33 flRX12_104 rfl (Or.inl rfl) hZ_b0 (by decide) eI26 ?_
        refine ok_goto (t := 0) dX12_nextToken_36 (by decide) ?_
        refine ok_sub [0] rfl ?_
        exact ih I26 L b0 hZ_b0 h
def f12_nextToken (n : Nat) (I : (Nat → Nat → Int32)) (L : (Nat → Nat → Int64)) (O : (Nat → Nat → Option Nat)) (a0 : Nat) : Option ((Nat → Nat → Int32) × (Nat → Nat → Int64)) := f12_nextToken_c0 n O n I L a0
set_option maxHeartbeats 4000000 in
set_option maxRecDepth 20000 in
theorem o12_nextToken {g : pG} {Qx : Option Value → pW → Prop} {Z : pZ} {I : (Nat → Nat → Int32)} {L : (Nat → Nat → Int64)} {O : (Nat → Nat → Option Nat)} {n : Nat} {a0 : Nat} {res : (Nat → Nat → Int32) × (Nat → Nat → Int64)} (d : Nat) (hW : WT Z O) (hZ0 : Z[a0]? = some (12, 34)) (h : f12_nextToken n I L O a0 = some res) (hQ : Qx none (Z, res.1, res.2, O)) : Ok g (d + 3, RX12, cX12_nextToken, 2, false, 0, 0, Z.length, pSl Z) Qx 0 [(0, .ref a0)] [] (Z, I, L, O) := by
  unfold f12_nextToken at h
  refine ok_sub [0] rfl ?_
  exact o12_nextToken_c0 d hW hQ  n I L a0 hZ0 h
theorem k12_nextToken {g : pG} {Q : Option Value → pW → Prop} {Z : pZ} {I : (Nat → Nat → Int32)} {L : (Nat → Nat → Int64)} {O : (Nat → Nat → Option Nat)} {n : Nat} {a0 : Nat} {res : (Nat → Nat → Int32) × (Nat → Nat → Int64)} (d : Nat) (hW : WT Z O) (hZ0 : Z[a0]? = some (12, 34)) (h : f12_nextToken n I L O a0 = some res) (hQ : Q none (Z, res.1, res.2, O)) : CT g (d + 3) m12_nextToken 0 0 [.ref a0] (Z, I, L, O) Q :=
  ct_of_ok (mt := m12_nextToken) (ini := false) mo12_nextToken.2.2.2.2 (fun h => by cases h) (Nat.le_of_ble_eq_true rfl) (o12_nextToken d hW hZ0 h ⟨trivial, hQ, rfl, rfl⟩)
theorem dX12_w2_0 : decode cX12_w2 0 = .ok (.iload_n 0, 1) := by decide +kernel
theorem dX12_w2_1 : decode cX12_w2 1 = .ok (.i2l, 1) := by decide +kernel
theorem dX12_w2_2 : decode cX12_w2 2 = .ok (.bipush 8, 2) := by decide +kernel
theorem dX12_w2_4 : decode cX12_w2 4 = .ok (.lshl, 1) := by decide +kernel
theorem dX12_w2_5 : decode cX12_w2 5 = .ok (.iload_n 1, 1) := by decide +kernel
theorem dX12_w2_6 : decode cX12_w2 6 = .ok (.i2l, 1) := by decide +kernel
theorem dX12_w2_7 : decode cX12_w2 7 = .ok (.lor, 1) := by decide +kernel
theorem dX12_w2_8 : decode cX12_w2 8 = .ok (.lreturn, 1) := by decide +kernel
def m12_w2 : pMT := (yX12_w2, cX12_w2, 2, some .long)
theorem mo12_w2 : mOK m12_w2 2 := ⟨tb_i 1494 (by decide +kernel), wi_RX12, ⟨wn_RX12.1, wn_RX12.2, by decide +kernel⟩, by decide, plainFor_of_name wp_RX12⟩
theorem mv12_w2 : mS m12_w2 := (tb_i 1493 (by decide +kernel) : Cond.static yX12_w2 ∈ lw_tbl)
def f12_w2 (x0 : Int32) (x1 : Int32) : Option (Int64) := some (((x0.toInt64 <<< ((8 : Int32).toInt64 &&& 63)) ||| x1.toInt64))
set_option maxHeartbeats 4000000 in
set_option maxRecDepth 20000 in
theorem o12_w2 {g : pG} {Qx : Option Value → pW → Prop} {Z : pZ} {I : (Nat → Nat → Int32)} {L : (Nat → Nat → Int64)} {O : (Nat → Nat → Option Nat)} {x0 : Int32} {x1 : Int32} {res : Int64} (d : Nat) (hW : WT Z O) (h : f12_w2 x0 x1 = some res) (hQ : Qx (some (.long res)) (Z, I, L, O)) : Ok g (d + 2, RX12, cX12_w2, 2, false, 0, 0, Z.length, pSl Z) Qx 0 [(0, .int x0), (1, .int x1)] [] (Z, I, L, O) := by
  unfold f12_w2 at h
  refine ok_iload_n dX12_w2_0 0 rfl ?_
  refine ok_i2l dX12_w2_1 ?_
  refine ok_bipush (v := 8) dX12_w2_2 (by decide) ?_
  refine ok_lshl dX12_w2_4 ?_
  refine ok_iload_n dX12_w2_5 1 rfl ?_
  refine ok_i2l dX12_w2_6 ?_
  refine ok_lor dX12_w2_7 ?_
  cases h
  exact ok_lret dX12_w2_8 hQ
theorem k12_w2 {g : pG} {Q : Option Value → pW → Prop} {Z : pZ} {I : (Nat → Nat → Int32)} {L : (Nat → Nat → Int64)} {O : (Nat → Nat → Option Nat)} {x0 : Int32} {x1 : Int32} {res : Int64} (d : Nat) (hW : WT Z O) (h : f12_w2 x0 x1 = some res) (hQ : Q (some (.long res)) (Z, I, L, O)) : CT g (d + 2) m12_w2 0 0 [.int x0, .int x1] (Z, I, L, O) Q :=
  ct_of_ok (mt := m12_w2) (ini := false) mo12_w2.2.2.2.2 (fun h => by cases h) (Nat.le_of_ble_eq_true rfl) (o12_w2 d hW  h ⟨trivial, hQ, rfl, rfl⟩)
theorem dX12_w3_0 : decode cX12_w3 0 = .ok (.iload_n 0, 1) := by decide +kernel
theorem dX12_w3_1 : decode cX12_w3 1 = .ok (.iload_n 1, 1) := by decide +kernel
theorem dX12_w3_2 : decode cX12_w3 2 = .ok (.invokestatic 136, 3) := by decide +kernel
theorem dX12_w3_5 : decode cX12_w3 5 = .ok (.bipush 8, 2) := by decide +kernel
theorem dX12_w3_7 : decode cX12_w3 7 = .ok (.lshl, 1) := by decide +kernel
theorem dX12_w3_8 : decode cX12_w3 8 = .ok (.iload_n 2, 1) := by decide +kernel
theorem dX12_w3_9 : decode cX12_w3 9 = .ok (.i2l, 1) := by decide +kernel
theorem dX12_w3_10 : decode cX12_w3 10 = .ok (.lor, 1) := by decide +kernel
theorem dX12_w3_11 : decode cX12_w3 11 = .ok (.lreturn, 1) := by decide +kernel
def m12_w3 : pMT := (yX12_w3, cX12_w3, 3, some .long)
theorem mo12_w3 : mOK m12_w3 3 := ⟨tb_i 1491 (by decide +kernel), wi_RX12, ⟨wn_RX12.1, wn_RX12.2, by decide +kernel⟩, by decide, plainFor_of_name wp_RX12⟩
theorem mv12_w3 : mS m12_w3 := (tb_i 1490 (by decide +kernel) : Cond.static yX12_w3 ∈ lw_tbl)
def f12_w3 (x0 : Int32) (x1 : Int32) (x2 : Int32) : Option (Int64) := (f12_w2 x0 x1).bind fun r1 => some (((r1 <<< ((8 : Int32).toInt64 &&& 63)) ||| x2.toInt64))
set_option maxHeartbeats 4000000 in
set_option maxRecDepth 20000 in
theorem o12_w3 {g : pG} {Qx : Option Value → pW → Prop} {Z : pZ} {I : (Nat → Nat → Int32)} {L : (Nat → Nat → Int64)} {O : (Nat → Nat → Option Nat)} {x0 : Int32} {x1 : Int32} {x2 : Int32} {res : Int64} (d : Nat) (hW : WT Z O) (h : f12_w3 x0 x1 x2 = some res) (hQ : Qx (some (.long res)) (Z, I, L, O)) : Ok g (d + 3, RX12, cX12_w3, 3, false, 0, 0, Z.length, pSl Z) Qx 0 [(0, .int x0), (1, .int x1), (2, .int x2)] [] (Z, I, L, O) := by
  unfold f12_w3 at h
  refine ok_iload_n dX12_w3_0 0 rfl ?_
  refine ok_iload_n dX12_w3_1 1 rfl ?_
  obtain ⟨r1, hr2, h⟩ := bd h
  refine ok_callS (d := ((d + 0) + 2)) (mt := m12_w2) (mc := 0) (ms := 0) (As := [.int x0, .int x1]) (r := []) dX12_w3_2 mo12_w2 mv12_w2 lkRX12_136 rfl rfl (Nat.le_of_ble_eq_true rfl) (by show _ + 1 ≤ d + _; omega) (Nat.le_refl _) (Nat.le_refl _) (pRt_mono ?_)
  refine k12_w2 (d + 0) hW  hr2 ?_
  intro _
  show Ok g _ Qx 5 [(0, .int x0), (1, .int x1), (2, .int x2)] [.long r1] (Z, I, L, O)
  refine ok_bipush (v := 8) dX12_w3_5 (by decide) ?_
  refine ok_lshl dX12_w3_7 ?_
  refine ok_iload_n dX12_w3_8 2 rfl ?_
  refine ok_i2l dX12_w3_9 ?_
  refine ok_lor dX12_w3_10 ?_
  cases h
  exact ok_lret dX12_w3_11 hQ
theorem k12_w3 {g : pG} {Q : Option Value → pW → Prop} {Z : pZ} {I : (Nat → Nat → Int32)} {L : (Nat → Nat → Int64)} {O : (Nat → Nat → Option Nat)} {x0 : Int32} {x1 : Int32} {x2 : Int32} {res : Int64} (d : Nat) (hW : WT Z O) (h : f12_w3 x0 x1 x2 = some res) (hQ : Q (some (.long res)) (Z, I, L, O)) : CT g (d + 3) m12_w3 0 0 [.int x0, .int x1, .int x2] (Z, I, L, O) Q :=
  ct_of_ok (mt := m12_w3) (ini := false) mo12_w3.2.2.2.2 (fun h => by cases h) (Nat.le_of_ble_eq_true rfl) (o12_w3 d hW  h ⟨trivial, hQ, rfl, rfl⟩)
theorem dX12_w4_0 : decode cX12_w4 0 = .ok (.iload_n 0, 1) := by decide +kernel
theorem dX12_w4_1 : decode cX12_w4 1 = .ok (.iload_n 1, 1) := by decide +kernel
theorem dX12_w4_2 : decode cX12_w4 2 = .ok (.iload_n 2, 1) := by decide +kernel
theorem dX12_w4_3 : decode cX12_w4 3 = .ok (.invokestatic 140, 3) := by decide +kernel
theorem dX12_w4_6 : decode cX12_w4 6 = .ok (.bipush 8, 2) := by decide +kernel
theorem dX12_w4_8 : decode cX12_w4 8 = .ok (.lshl, 1) := by decide +kernel
theorem dX12_w4_9 : decode cX12_w4 9 = .ok (.iload_n 3, 1) := by decide +kernel
theorem dX12_w4_10 : decode cX12_w4 10 = .ok (.i2l, 1) := by decide +kernel
theorem dX12_w4_11 : decode cX12_w4 11 = .ok (.lor, 1) := by decide +kernel
theorem dX12_w4_12 : decode cX12_w4 12 = .ok (.lreturn, 1) := by decide +kernel
def m12_w4 : pMT := (yX12_w4, cX12_w4, 4, some .long)
theorem mo12_w4 : mOK m12_w4 4 := ⟨tb_i 1488 (by decide +kernel), wi_RX12, ⟨wn_RX12.1, wn_RX12.2, by decide +kernel⟩, by decide, plainFor_of_name wp_RX12⟩
theorem mv12_w4 : mS m12_w4 := (tb_i 1487 (by decide +kernel) : Cond.static yX12_w4 ∈ lw_tbl)
def f12_w4 (x0 : Int32) (x1 : Int32) (x2 : Int32) (x3 : Int32) : Option (Int64) := (f12_w3 x0 x1 x2).bind fun r1 => some (((r1 <<< ((8 : Int32).toInt64 &&& 63)) ||| x3.toInt64))
set_option maxHeartbeats 4000000 in
set_option maxRecDepth 20000 in
theorem o12_w4 {g : pG} {Qx : Option Value → pW → Prop} {Z : pZ} {I : (Nat → Nat → Int32)} {L : (Nat → Nat → Int64)} {O : (Nat → Nat → Option Nat)} {x0 : Int32} {x1 : Int32} {x2 : Int32} {x3 : Int32} {res : Int64} (d : Nat) (hW : WT Z O) (h : f12_w4 x0 x1 x2 x3 = some res) (hQ : Qx (some (.long res)) (Z, I, L, O)) : Ok g (d + 4, RX12, cX12_w4, 4, false, 0, 0, Z.length, pSl Z) Qx 0 [(0, .int x0), (1, .int x1), (2, .int x2), (3, .int x3)] [] (Z, I, L, O) := by
  unfold f12_w4 at h
  refine ok_iload_n dX12_w4_0 0 rfl ?_
  refine ok_iload_n dX12_w4_1 1 rfl ?_
  refine ok_iload_n dX12_w4_2 2 rfl ?_
  obtain ⟨r1, hr2, h⟩ := bd h
  refine ok_callS (d := ((d + 0) + 3)) (mt := m12_w3) (mc := 0) (ms := 0) (As := [.int x0, .int x1, .int x2]) (r := []) dX12_w4_3 mo12_w3 mv12_w3 lkRX12_140 rfl rfl (Nat.le_of_ble_eq_true rfl) (by show _ + 1 ≤ d + _; omega) (Nat.le_refl _) (Nat.le_refl _) (pRt_mono ?_)
  refine k12_w3 (d + 0) hW  hr2 ?_
  intro _
  show Ok g _ Qx 6 [(0, .int x0), (1, .int x1), (2, .int x2), (3, .int x3)] [.long r1] (Z, I, L, O)
  refine ok_bipush (v := 8) dX12_w4_6 (by decide) ?_
  refine ok_lshl dX12_w4_8 ?_
  refine ok_iload_n dX12_w4_9 3 rfl ?_
  refine ok_i2l dX12_w4_10 ?_
  refine ok_lor dX12_w4_11 ?_
  cases h
  exact ok_lret dX12_w4_12 hQ
theorem k12_w4 {g : pG} {Q : Option Value → pW → Prop} {Z : pZ} {I : (Nat → Nat → Int32)} {L : (Nat → Nat → Int64)} {O : (Nat → Nat → Option Nat)} {x0 : Int32} {x1 : Int32} {x2 : Int32} {x3 : Int32} {res : Int64} (d : Nat) (hW : WT Z O) (h : f12_w4 x0 x1 x2 x3 = some res) (hQ : Q (some (.long res)) (Z, I, L, O)) : CT g (d + 4) m12_w4 0 0 [.int x0, .int x1, .int x2, .int x3] (Z, I, L, O) Q :=
  ct_of_ok (mt := m12_w4) (ini := false) mo12_w4.2.2.2.2 (fun h => by cases h) (Nat.le_of_ble_eq_true rfl) (o12_w4 d hW  h ⟨trivial, hQ, rfl, rfl⟩)
theorem dX12_w5_0 : decode cX12_w5 0 = .ok (.iload_n 0, 1) := by decide +kernel
theorem dX12_w5_1 : decode cX12_w5 1 = .ok (.iload_n 1, 1) := by decide +kernel
theorem dX12_w5_2 : decode cX12_w5 2 = .ok (.iload_n 2, 1) := by decide +kernel
theorem dX12_w5_3 : decode cX12_w5 3 = .ok (.iload_n 3, 1) := by decide +kernel
theorem dX12_w5_4 : decode cX12_w5 4 = .ok (.invokestatic 144, 3) := by decide +kernel
theorem dX12_w5_7 : decode cX12_w5 7 = .ok (.bipush 8, 2) := by decide +kernel
theorem dX12_w5_9 : decode cX12_w5 9 = .ok (.lshl, 1) := by decide +kernel
theorem dX12_w5_10 : decode cX12_w5 10 = .ok (.iload 4, 2) := by decide +kernel
theorem dX12_w5_12 : decode cX12_w5 12 = .ok (.i2l, 1) := by decide +kernel
theorem dX12_w5_13 : decode cX12_w5 13 = .ok (.lor, 1) := by decide +kernel
theorem dX12_w5_14 : decode cX12_w5 14 = .ok (.lreturn, 1) := by decide +kernel
def m12_w5 : pMT := (yX12_w5, cX12_w5, 5, some .long)
theorem mo12_w5 : mOK m12_w5 5 := ⟨tb_i 1485 (by decide +kernel), wi_RX12, ⟨wn_RX12.1, wn_RX12.2, by decide +kernel⟩, by decide, plainFor_of_name wp_RX12⟩
theorem mv12_w5 : mS m12_w5 := (tb_i 1484 (by decide +kernel) : Cond.static yX12_w5 ∈ lw_tbl)
def f12_w5 (x0 : Int32) (x1 : Int32) (x2 : Int32) (x3 : Int32) (x4 : Int32) : Option (Int64) := (f12_w4 x0 x1 x2 x3).bind fun r1 => some (((r1 <<< ((8 : Int32).toInt64 &&& 63)) ||| x4.toInt64))
set_option maxHeartbeats 4000000 in
set_option maxRecDepth 20000 in
theorem o12_w5 {g : pG} {Qx : Option Value → pW → Prop} {Z : pZ} {I : (Nat → Nat → Int32)} {L : (Nat → Nat → Int64)} {O : (Nat → Nat → Option Nat)} {x0 : Int32} {x1 : Int32} {x2 : Int32} {x3 : Int32} {x4 : Int32} {res : Int64} (d : Nat) (hW : WT Z O) (h : f12_w5 x0 x1 x2 x3 x4 = some res) (hQ : Qx (some (.long res)) (Z, I, L, O)) : Ok g (d + 5, RX12, cX12_w5, 5, false, 0, 0, Z.length, pSl Z) Qx 0 [(0, .int x0), (1, .int x1), (2, .int x2), (3, .int x3), (4, .int x4)] [] (Z, I, L, O) := by
  unfold f12_w5 at h
  refine ok_iload_n dX12_w5_0 0 rfl ?_
  refine ok_iload_n dX12_w5_1 1 rfl ?_
  refine ok_iload_n dX12_w5_2 2 rfl ?_
  refine ok_iload_n dX12_w5_3 3 rfl ?_
  obtain ⟨r1, hr2, h⟩ := bd h
  refine ok_callS (d := ((d + 0) + 4)) (mt := m12_w4) (mc := 0) (ms := 0) (As := [.int x0, .int x1, .int x2, .int x3]) (r := []) dX12_w5_4 mo12_w4 mv12_w4 lkRX12_144 rfl rfl (Nat.le_of_ble_eq_true rfl) (by show _ + 1 ≤ d + _; omega) (Nat.le_refl _) (Nat.le_refl _) (pRt_mono ?_)
  refine k12_w4 (d + 0) hW  hr2 ?_
  intro _
  show Ok g _ Qx 7 [(0, .int x0), (1, .int x1), (2, .int x2), (3, .int x3), (4, .int x4)] [.long r1] (Z, I, L, O)
  refine ok_bipush (v := 8) dX12_w5_7 (by decide) ?_
  refine ok_lshl dX12_w5_9 ?_
  refine ok_iload dX12_w5_10 4 rfl ?_
  refine ok_i2l dX12_w5_12 ?_
  refine ok_lor dX12_w5_13 ?_
  cases h
  exact ok_lret dX12_w5_14 hQ
theorem k12_w5 {g : pG} {Q : Option Value → pW → Prop} {Z : pZ} {I : (Nat → Nat → Int32)} {L : (Nat → Nat → Int64)} {O : (Nat → Nat → Option Nat)} {x0 : Int32} {x1 : Int32} {x2 : Int32} {x3 : Int32} {x4 : Int32} {res : Int64} (d : Nat) (hW : WT Z O) (h : f12_w5 x0 x1 x2 x3 x4 = some res) (hQ : Q (some (.long res)) (Z, I, L, O)) : CT g (d + 5) m12_w5 0 0 [.int x0, .int x1, .int x2, .int x3, .int x4] (Z, I, L, O) Q :=
  ct_of_ok (mt := m12_w5) (ini := false) mo12_w5.2.2.2.2 (fun h => by cases h) (Nat.le_of_ble_eq_true rfl) (o12_w5 d hW  h ⟨trivial, hQ, rfl, rfl⟩)
theorem dX12_w6_0 : decode cX12_w6 0 = .ok (.iload_n 0, 1) := by decide +kernel
theorem dX12_w6_1 : decode cX12_w6 1 = .ok (.iload_n 1, 1) := by decide +kernel
theorem dX12_w6_2 : decode cX12_w6 2 = .ok (.iload_n 2, 1) := by decide +kernel
theorem dX12_w6_3 : decode cX12_w6 3 = .ok (.iload_n 3, 1) := by decide +kernel
theorem dX12_w6_4 : decode cX12_w6 4 = .ok (.iload 4, 2) := by decide +kernel
theorem dX12_w6_6 : decode cX12_w6 6 = .ok (.invokestatic 148, 3) := by decide +kernel
theorem dX12_w6_9 : decode cX12_w6 9 = .ok (.bipush 8, 2) := by decide +kernel
theorem dX12_w6_11 : decode cX12_w6 11 = .ok (.lshl, 1) := by decide +kernel
theorem dX12_w6_12 : decode cX12_w6 12 = .ok (.iload 5, 2) := by decide +kernel
theorem dX12_w6_14 : decode cX12_w6 14 = .ok (.i2l, 1) := by decide +kernel
theorem dX12_w6_15 : decode cX12_w6 15 = .ok (.lor, 1) := by decide +kernel
theorem dX12_w6_16 : decode cX12_w6 16 = .ok (.lreturn, 1) := by decide +kernel
def m12_w6 : pMT := (yX12_w6, cX12_w6, 6, some .long)
theorem mo12_w6 : mOK m12_w6 6 := ⟨tb_i 1501 (by decide +kernel), wi_RX12, ⟨wn_RX12.1, wn_RX12.2, by decide +kernel⟩, by decide, plainFor_of_name wp_RX12⟩
theorem mv12_w6 : mS m12_w6 := (tb_i 1500 (by decide +kernel) : Cond.static yX12_w6 ∈ lw_tbl)
def f12_w6 (x0 : Int32) (x1 : Int32) (x2 : Int32) (x3 : Int32) (x4 : Int32) (x5 : Int32) : Option (Int64) := (f12_w5 x0 x1 x2 x3 x4).bind fun r1 => some (((r1 <<< ((8 : Int32).toInt64 &&& 63)) ||| x5.toInt64))
set_option maxHeartbeats 4000000 in
set_option maxRecDepth 20000 in
theorem o12_w6 {g : pG} {Qx : Option Value → pW → Prop} {Z : pZ} {I : (Nat → Nat → Int32)} {L : (Nat → Nat → Int64)} {O : (Nat → Nat → Option Nat)} {x0 : Int32} {x1 : Int32} {x2 : Int32} {x3 : Int32} {x4 : Int32} {x5 : Int32} {res : Int64} (d : Nat) (hW : WT Z O) (h : f12_w6 x0 x1 x2 x3 x4 x5 = some res) (hQ : Qx (some (.long res)) (Z, I, L, O)) : Ok g (d + 6, RX12, cX12_w6, 6, false, 0, 0, Z.length, pSl Z) Qx 0 [(0, .int x0), (1, .int x1), (2, .int x2), (3, .int x3), (4, .int x4), (5, .int x5)] [] (Z, I, L, O) := by
  unfold f12_w6 at h
  refine ok_iload_n dX12_w6_0 0 rfl ?_
  refine ok_iload_n dX12_w6_1 1 rfl ?_
  refine ok_iload_n dX12_w6_2 2 rfl ?_
  refine ok_iload_n dX12_w6_3 3 rfl ?_
  refine ok_iload dX12_w6_4 4 rfl ?_
  obtain ⟨r1, hr2, h⟩ := bd h
  refine ok_callS (d := ((d + 0) + 5)) (mt := m12_w5) (mc := 0) (ms := 0) (As := [.int x0, .int x1, .int x2, .int x3, .int x4]) (r := []) dX12_w6_6 mo12_w5 mv12_w5 lkRX12_148 rfl rfl (Nat.le_of_ble_eq_true rfl) (by show _ + 1 ≤ d + _; omega) (Nat.le_refl _) (Nat.le_refl _) (pRt_mono ?_)
  refine k12_w5 (d + 0) hW  hr2 ?_
  intro _
  show Ok g _ Qx 9 [(0, .int x0), (1, .int x1), (2, .int x2), (3, .int x3), (4, .int x4), (5, .int x5)] [.long r1] (Z, I, L, O)
  refine ok_bipush (v := 8) dX12_w6_9 (by decide) ?_
  refine ok_lshl dX12_w6_11 ?_
  refine ok_iload dX12_w6_12 5 rfl ?_
  refine ok_i2l dX12_w6_14 ?_
  refine ok_lor dX12_w6_15 ?_
  cases h
  exact ok_lret dX12_w6_16 hQ
theorem k12_w6 {g : pG} {Q : Option Value → pW → Prop} {Z : pZ} {I : (Nat → Nat → Int32)} {L : (Nat → Nat → Int64)} {O : (Nat → Nat → Option Nat)} {x0 : Int32} {x1 : Int32} {x2 : Int32} {x3 : Int32} {x4 : Int32} {x5 : Int32} {res : Int64} (d : Nat) (hW : WT Z O) (h : f12_w6 x0 x1 x2 x3 x4 x5 = some res) (hQ : Q (some (.long res)) (Z, I, L, O)) : CT g (d + 6) m12_w6 0 0 [.int x0, .int x1, .int x2, .int x3, .int x4, .int x5] (Z, I, L, O) Q :=
  ct_of_ok (mt := m12_w6) (ini := false) mo12_w6.2.2.2.2 (fun h => by cases h) (Nat.le_of_ble_eq_true rfl) (o12_w6 d hW  h ⟨trivial, hQ, rfl, rfl⟩)
theorem dX12_isWord_0 : decode cX12_isWord 0 = .ok (.aload_n 0, 1) := by decide +kernel
theorem dX12_isWord_1 : decode cX12_isWord 1 = .ok (.getfield 114, 3) := by decide +kernel
theorem dX12_isWord_4 : decode cX12_isWord 4 = .ok (.iconst 2, 1) := by decide +kernel
theorem dX12_isWord_5 : decode cX12_isWord 5 = .ok (.if_icmp .ne 16, 3) := by decide +kernel
theorem dX12_isWord_8 : decode cX12_isWord 8 = .ok (.aload_n 0, 1) := by decide +kernel
theorem dX12_isWord_9 : decode cX12_isWord 9 = .ok (.getfield 127, 3) := by decide +kernel
theorem dX12_isWord_12 : decode cX12_isWord 12 = .ok (.lload_n 1, 1) := by decide +kernel
theorem dX12_isWord_13 : decode cX12_isWord 13 = .ok (.lcmp, 1) := by decide +kernel
theorem dX12_isWord_14 : decode cX12_isWord 14 = .ok (.ifCond .ne 7, 3) := by decide +kernel
theorem dX12_isWord_17 : decode cX12_isWord 17 = .ok (.iconst 1, 1) := by decide +kernel
theorem dX12_isWord_18 : decode cX12_isWord 18 = .ok (.goto 4, 3) := by decide +kernel
theorem dX12_isWord_21 : decode cX12_isWord 21 = .ok (.iconst 0, 1) := by decide +kernel
theorem dX12_isWord_22 : decode cX12_isWord 22 = .ok (.ireturn, 1) := by decide +kernel
def m12_isWord : pMT := (yX12_isWord, cX12_isWord, 3, some .boolean)
theorem mo12_isWord : mOK m12_isWord 1 := ⟨tb_i 1498 (by decide +kernel), wi_RX12, ⟨wn_RX12.1, wn_RX12.2, by decide +kernel⟩, by decide, plainFor_of_name wp_RX12⟩
theorem mv12_isWord : mV m12_isWord := ⟨tb_i 1497 (by decide +kernel), tb_p 66 (by decide +kernel)⟩
def f12_isWord (I : (Nat → Nat → Int32)) (L : (Nat → Nat → Int64)) (a0 : Nat) (x1 : Int64) : Option (Int32) := (if (I a0 9) = (2 : Int32) then (if (lg_cmp (L a0 11) x1) = 0 then some ((1 : Int32)) else some ((0 : Int32))) else some ((0 : Int32)))
set_option maxHeartbeats 4000000 in
set_option maxRecDepth 20000 in
theorem o12_isWord {g : pG} {Qx : Option Value → pW → Prop} {Z : pZ} {I : (Nat → Nat → Int32)} {L : (Nat → Nat → Int64)} {O : (Nat → Nat → Option Nat)} {a0 : Nat} {x1 : Int64} {res : Int32} (d : Nat) (hW : WT Z O) (hZ0 : Z[a0]? = some (12, 34)) (h : f12_isWord I L a0 x1 = some res) (hQ : (res = 0 ∨ res = 1) → Qx (some (.int res)) (Z, I, L, O)) : Ok g (d + 2, RX12, cX12_isWord, 3, false, 0, 0, Z.length, pSl Z) Qx 0 [(0, .ref a0), (1, .long x1)] [] (Z, I, L, O) := by
  unfold f12_isWord at h
  refine ok_aload_n dX12_isWord_0 0 rfl ?_
  refine ok_getI (ci := 12) (k := 9) dX12_isWord_1 flRX12_114 rfl hZ0 (by decide) ?_
  refine ok_iconst (v := 2) dX12_isWord_4 (by decide) ?_
  refine ok_icmp_ne (t := 21) dX12_isWord_5 (by decide) (fun hc1 => ?_) (fun hc1 => ?_)
  · have h := (if_neg hc1).symm.trans h
    refine ok_iconst (v := 0) dX12_isWord_21 (by decide) ?_
    cases h
    exact ok_iret dX12_isWord_22 (hQ (Or.inl rfl))
  · have h := (if_pos hc1).symm.trans h
    refine ok_aload_n dX12_isWord_8 0 rfl ?_
    refine ok_getJ (ci := 12) (k := 11) dX12_isWord_9 flRX12_127 rfl hZ0 (by decide) ?_
    refine ok_lload_n dX12_isWord_12 1 rfl ?_
    refine ok_lcmp dX12_isWord_13 ?_
    refine ok_if_ne (t := 21) dX12_isWord_14 (by decide) (fun hc2 => ?_) (fun hc2 => ?_)
    · have h := (if_neg hc2).symm.trans h
      refine ok_iconst (v := 0) dX12_isWord_21 (by decide) ?_
      cases h
      exact ok_iret dX12_isWord_22 (hQ (Or.inl rfl))
    · have h := (if_pos hc2).symm.trans h
      refine ok_iconst (v := 1) dX12_isWord_17 (by decide) ?_
      refine ok_goto (t := 22) dX12_isWord_18 (by decide) ?_
      cases h
      exact ok_iret dX12_isWord_22 (hQ (Or.inr rfl))
theorem k12_isWord {g : pG} {Q : Option Value → pW → Prop} {Z : pZ} {I : (Nat → Nat → Int32)} {L : (Nat → Nat → Int64)} {O : (Nat → Nat → Option Nat)} {a0 : Nat} {x1 : Int64} {res : Int32} (d : Nat) (hW : WT Z O) (hZ0 : Z[a0]? = some (12, 34)) (h : f12_isWord I L a0 x1 = some res) (hQ : Q (some (.int res)) (Z, I, L, O)) : CT g (d + 2) m12_isWord 0 0 [.ref a0, .long x1] (Z, I, L, O) Q :=
  ct_of_ok (mt := m12_isWord) (ini := false) mo12_isWord.2.2.2.2 (fun h => by cases h) (Nat.le_of_ble_eq_true rfl) (o12_isWord d hW hZ0 h (fun hb => ⟨hb, hQ, rfl, rfl⟩))
theorem dX12_emit_0 : decode cX12_emit 0 = .ok (.aload_n 0, 1) := by decide +kernel
theorem dX12_emit_1 : decode cX12_emit 1 = .ok (.getfield 16, 3) := by decide +kernel
theorem dX12_emit_4 : decode cX12_emit 4 = .ok (.aload_n 0, 1) := by decide +kernel
theorem dX12_emit_5 : decode cX12_emit 5 = .ok (.getfield 152, 3) := by decide +kernel
theorem dX12_emit_8 : decode cX12_emit 8 = .ok (.sipush 457, 3) := by decide +kernel
theorem dX12_emit_11 : decode cX12_emit 11 = .ok (.iadd, 1) := by decide +kernel
theorem dX12_emit_12 : decode cX12_emit 12 = .ok (.iconst 2, 1) := by decide +kernel
theorem dX12_emit_13 : decode cX12_emit 13 = .ok (.aload_n 0, 1) := by decide +kernel
theorem dX12_emit_14 : decode cX12_emit 14 = .ok (.getfield 155, 3) := by decide +kernel
theorem dX12_emit_17 : decode cX12_emit 17 = .ok (.imul, 1) := by decide +kernel
theorem dX12_emit_18 : decode cX12_emit 18 = .ok (.iadd, 1) := by decide +kernel
theorem dX12_emit_19 : decode cX12_emit 19 = .ok (.iload_n 1, 1) := by decide +kernel
theorem dX12_emit_20 : decode cX12_emit 20 = .ok (.iastore, 1) := by decide +kernel
theorem dX12_emit_21 : decode cX12_emit 21 = .ok (.aload_n 0, 1) := by decide +kernel
theorem dX12_emit_22 : decode cX12_emit 22 = .ok (.getfield 16, 3) := by decide +kernel
theorem dX12_emit_25 : decode cX12_emit 25 = .ok (.aload_n 0, 1) := by decide +kernel
theorem dX12_emit_26 : decode cX12_emit 26 = .ok (.getfield 152, 3) := by decide +kernel
theorem dX12_emit_29 : decode cX12_emit 29 = .ok (.sipush 457, 3) := by decide +kernel
theorem dX12_emit_32 : decode cX12_emit 32 = .ok (.iadd, 1) := by decide +kernel
theorem dX12_emit_33 : decode cX12_emit 33 = .ok (.iconst 2, 1) := by decide +kernel
theorem dX12_emit_34 : decode cX12_emit 34 = .ok (.aload_n 0, 1) := by decide +kernel
theorem dX12_emit_35 : decode cX12_emit 35 = .ok (.getfield 155, 3) := by decide +kernel
theorem dX12_emit_38 : decode cX12_emit 38 = .ok (.imul, 1) := by decide +kernel
theorem dX12_emit_39 : decode cX12_emit 39 = .ok (.iadd, 1) := by decide +kernel
theorem dX12_emit_40 : decode cX12_emit 40 = .ok (.iconst 1, 1) := by decide +kernel
theorem dX12_emit_41 : decode cX12_emit 41 = .ok (.iadd, 1) := by decide +kernel
theorem dX12_emit_42 : decode cX12_emit 42 = .ok (.iload_n 2, 1) := by decide +kernel
theorem dX12_emit_43 : decode cX12_emit 43 = .ok (.iastore, 1) := by decide +kernel
theorem dX12_emit_44 : decode cX12_emit 44 = .ok (.aload_n 0, 1) := by decide +kernel
theorem dX12_emit_45 : decode cX12_emit 45 = .ok (.dup, 1) := by decide +kernel
theorem dX12_emit_46 : decode cX12_emit 46 = .ok (.getfield 155, 3) := by decide +kernel
theorem dX12_emit_49 : decode cX12_emit 49 = .ok (.iconst 1, 1) := by decide +kernel
theorem dX12_emit_50 : decode cX12_emit 50 = .ok (.iadd, 1) := by decide +kernel
theorem dX12_emit_51 : decode cX12_emit 51 = .ok (.putfield 155, 3) := by decide +kernel
theorem dX12_emit_54 : decode cX12_emit 54 = .ok (.return_, 1) := by decide +kernel
def m12_emit : pMT := (yX12_emit, cX12_emit, 3, none)
theorem mo12_emit : mOK m12_emit 2 := ⟨tb_i 1563 (by decide +kernel), wi_RX12, ⟨wn_RX12.1, wn_RX12.2, by decide +kernel⟩, by decide, plainFor_of_name wp_RX12⟩
theorem mv12_emit : mV m12_emit := ⟨tb_i 1562 (by decide +kernel), tb_p 80 (by decide +kernel)⟩
def f12_emit (I : (Nat → Nat → Int32)) (O : (Nat → Nat → Option Nat)) (a0 : Nat) (x1 : Int32) (x2 : Int32) : Option ((Nat → Nat → Int32)) := (if (((I a0 12) + 457) + ((2 : Int32) * (I a0 13))) < 0 ∨ 4260 ≤ (((I a0 12) + 457) + ((2 : Int32) * (I a0 13))).toNatClampNeg then none else bl (sI I (rO O a0 2) (((I a0 12) + 457) + ((2 : Int32) * (I a0 13))).toNatClampNeg x1) fun I3 => (if ((((I3 a0 12) + 457) + ((2 : Int32) * (I3 a0 13))) + 1) < 0 ∨ 4260 ≤ ((((I3 a0 12) + 457) + ((2 : Int32) * (I3 a0 13))) + 1).toNatClampNeg then none else bl (sI I3 (rO O a0 2) ((((I3 a0 12) + 457) + ((2 : Int32) * (I3 a0 13))) + 1).toNatClampNeg x2) fun I5 => bl (sI I5 a0 13 ((I5 a0 13) + 1)) fun I6 => some (I6)))
set_option maxHeartbeats 4000000 in
set_option maxRecDepth 20000 in
theorem o12_emit {g : pG} {Qx : Option Value → pW → Prop} {Z : pZ} {I : (Nat → Nat → Int32)} {L : (Nat → Nat → Int64)} {O : (Nat → Nat → Option Nat)} {a0 : Nat} {x1 : Int32} {x2 : Int32} {res : (Nat → Nat → Int32)} (d : Nat) (hW : WT Z O) (hZ0 : Z[a0]? = some (12, 34)) (h : f12_emit I O a0 x1 x2 = some res) (hQ : Qx none (Z, res, L, O)) : Ok g (d + 2, RX12, cX12_emit, 3, false, 0, 0, Z.length, pSl Z) Qx 0 [(0, .ref a0), (1, .int x1), (2, .int x2)] [] (Z, I, L, O) := by
  unfold f12_emit at h
  refine ok_aload_n dX12_emit_0 0 rfl ?_
  have hT1 : Z[(rO O a0 2)]? = some (13, 4260) := (wt_f (ci := 12) (k := 2) hW hZ0 rfl).2
  refine ok_getR (ci := 12) (k := 2) dX12_emit_1 flRX12_16 rfl hW hZ0 (by decide) ?_
  refine ok_aload_n dX12_emit_4 0 rfl ?_
  refine ok_getI (ci := 12) (k := 12) dX12_emit_5 flRX12_152 rfl hZ0 (by decide) ?_
  refine ok_sipush (v := 457) dX12_emit_8 (by decide) ?_
  refine ok_iadd dX12_emit_11 ?_
  refine ok_iconst (v := 2) dX12_emit_12 (by decide) ?_
  refine ok_aload_n dX12_emit_13 0 rfl ?_
  refine ok_getI (ci := 12) (k := 13) dX12_emit_14 flRX12_155 rfl hZ0 (by decide) ?_
  refine ok_imul dX12_emit_17 ?_
  refine ok_iadd dX12_emit_18 ?_
  refine ok_iload_n dX12_emit_19 1 rfl ?_
  obtain ⟨hg2, h⟩ := gd h
  obtain ⟨I3, eI3, h⟩ := blE h
  refine ok_iast3 dX12_emit_20 hT1 hg2 rfl eI3 ?_
  refine ok_aload_n dX12_emit_21 0 rfl ?_
  refine ok_getR (ci := 12) (k := 2) dX12_emit_22 flRX12_16 rfl hW hZ0 (by decide) ?_
  refine ok_aload_n dX12_emit_25 0 rfl ?_
  refine ok_getI (ci := 12) (k := 12) dX12_emit_26 flRX12_152 rfl hZ0 (by decide) ?_
  refine ok_sipush (v := 457) dX12_emit_29 (by decide) ?_
  refine ok_iadd dX12_emit_32 ?_
  refine ok_iconst (v := 2) dX12_emit_33 (by decide) ?_
  refine ok_aload_n dX12_emit_34 0 rfl ?_
  refine ok_getI (ci := 12) (k := 13) dX12_emit_35 flRX12_155 rfl hZ0 (by decide) ?_
  refine ok_imul dX12_emit_38 ?_
  refine ok_iadd dX12_emit_39 ?_
  refine ok_iconst (v := 1) dX12_emit_40 (by decide) ?_
  refine ok_iadd dX12_emit_41 ?_
  refine ok_iload_n dX12_emit_42 2 rfl ?_
  obtain ⟨hg4, h⟩ := gd h
  obtain ⟨I5, eI5, h⟩ := blE h
  refine ok_iast3 dX12_emit_43 hT1 hg4 rfl eI5 ?_
  refine ok_aload_n dX12_emit_44 0 rfl ?_
  refine ok_dup dX12_emit_45 rfl ?_
  refine ok_getI (ci := 12) (k := 13) dX12_emit_46 flRX12_155 rfl hZ0 (by decide) ?_
  refine ok_iconst (v := 1) dX12_emit_49 (by decide) ?_
  refine ok_iadd dX12_emit_50 ?_
  obtain ⟨I6, eI6, h⟩ := blE h
  refine ok_putI2 (ci := 12) (k := 13) dX12_emit_51 flRX12_155 rfl (Or.inl rfl) hZ0 (by decide) eI6 ?_
  cases h
  exact ok_vret dX12_emit_54 hQ
theorem k12_emit {g : pG} {Q : Option Value → pW → Prop} {Z : pZ} {I : (Nat → Nat → Int32)} {L : (Nat → Nat → Int64)} {O : (Nat → Nat → Option Nat)} {a0 : Nat} {x1 : Int32} {x2 : Int32} {res : (Nat → Nat → Int32)} (d : Nat) (hW : WT Z O) (hZ0 : Z[a0]? = some (12, 34)) (h : f12_emit I O a0 x1 x2 = some res) (hQ : Q none (Z, res, L, O)) : CT g (d + 2) m12_emit 0 0 [.ref a0, .int x1, .int x2] (Z, I, L, O) Q :=
  ct_of_ok (mt := m12_emit) (ini := false) mo12_emit.2.2.2.2 (fun h => by cases h) (Nat.le_of_ble_eq_true rfl) (o12_emit d hW hZ0 h ⟨trivial, hQ, rfl, rfl⟩)
theorem dX12_nameOf_0 : decode cX12_nameOf 0 = .ok (.aload_n 0, 1) := by decide +kernel
theorem dX12_nameOf_1 : decode cX12_nameOf 1 = .ok (.getfield 114, 3) := by decide +kernel
theorem dX12_nameOf_4 : decode cX12_nameOf 4 = .ok (.iconst 2, 1) := by decide +kernel
theorem dX12_nameOf_5 : decode cX12_nameOf 5 = .ok (.if_icmp .eq 5, 3) := by decide +kernel
theorem dX12_nameOf_8 : decode cX12_nameOf 8 = .ok (.iconst (-1), 1) := by decide +kernel
theorem dX12_nameOf_9 : decode cX12_nameOf 9 = .ok (.ireturn, 1) := by decide +kernel
theorem dX12_nameOf_10 : decode cX12_nameOf 10 = .ok (.aload_n 0, 1) := by decide +kernel
theorem dX12_nameOf_11 : decode cX12_nameOf 11 = .ok (.getfield 127, 3) := by decide +kernel
theorem dX12_nameOf_14 : decode cX12_nameOf 14 = .ok (.bipush 115, 2) := by decide +kernel
theorem dX12_nameOf_16 : decode cX12_nameOf 16 = .ok (.bipush 117, 2) := by decide +kernel
theorem dX12_nameOf_18 : decode cX12_nameOf 18 = .ok (.bipush 110, 2) := by decide +kernel
theorem dX12_nameOf_20 : decode cX12_nameOf 20 = .ok (.bipush 100, 2) := by decide +kernel
theorem dX12_nameOf_22 : decode cX12_nameOf 22 = .ok (.bipush 97, 2) := by decide +kernel
theorem dX12_nameOf_24 : decode cX12_nameOf 24 = .ok (.bipush 121, 2) := by decide +kernel
theorem dX12_nameOf_26 : decode cX12_nameOf 26 = .ok (.invokestatic 158, 3) := by decide +kernel
theorem dX12_nameOf_29 : decode cX12_nameOf 29 = .ok (.lcmp, 1) := by decide +kernel
theorem dX12_nameOf_30 : decode cX12_nameOf 30 = .ok (.ifCond .ne 5, 3) := by decide +kernel
theorem dX12_nameOf_33 : decode cX12_nameOf 33 = .ok (.iconst 0, 1) := by decide +kernel
theorem dX12_nameOf_34 : decode cX12_nameOf 34 = .ok (.ireturn, 1) := by decide +kernel
theorem dX12_nameOf_35 : decode cX12_nameOf 35 = .ok (.aload_n 0, 1) := by decide +kernel
theorem dX12_nameOf_36 : decode cX12_nameOf 36 = .ok (.getfield 127, 3) := by decide +kernel
theorem dX12_nameOf_39 : decode cX12_nameOf 39 = .ok (.bipush 107, 2) := by decide +kernel
theorem dX12_nameOf_41 : decode cX12_nameOf 41 = .ok (.bipush 101, 2) := by decide +kernel
theorem dX12_nameOf_43 : decode cX12_nameOf 43 = .ok (.bipush 121, 2) := by decide +kernel
theorem dX12_nameOf_45 : decode cX12_nameOf 45 = .ok (.invokestatic 140, 3) := by decide +kernel
theorem dX12_nameOf_48 : decode cX12_nameOf 48 = .ok (.lcmp, 1) := by decide +kernel
theorem dX12_nameOf_49 : decode cX12_nameOf 49 = .ok (.ifCond .ne 5, 3) := by decide +kernel
theorem dX12_nameOf_52 : decode cX12_nameOf 52 = .ok (.iconst 1, 1) := by decide +kernel
theorem dX12_nameOf_53 : decode cX12_nameOf 53 = .ok (.ireturn, 1) := by decide +kernel
theorem dX12_nameOf_54 : decode cX12_nameOf 54 = .ok (.aload_n 0, 1) := by decide +kernel
theorem dX12_nameOf_55 : decode cX12_nameOf 55 = .ok (.getfield 127, 3) := by decide +kernel
theorem dX12_nameOf_58 : decode cX12_nameOf 58 = .ok (.bipush 119, 2) := by decide +kernel
theorem dX12_nameOf_60 : decode cX12_nameOf 60 = .ok (.bipush 104, 2) := by decide +kernel
theorem dX12_nameOf_62 : decode cX12_nameOf 62 = .ok (.bipush 111, 2) := by decide +kernel
theorem dX12_nameOf_64 : decode cX12_nameOf 64 = .ok (.invokestatic 140, 3) := by decide +kernel
theorem dX12_nameOf_67 : decode cX12_nameOf 67 = .ok (.lcmp, 1) := by decide +kernel
theorem dX12_nameOf_68 : decode cX12_nameOf 68 = .ok (.ifCond .ne 5, 3) := by decide +kernel
theorem dX12_nameOf_71 : decode cX12_nameOf 71 = .ok (.iconst 2, 1) := by decide +kernel
theorem dX12_nameOf_72 : decode cX12_nameOf 72 = .ok (.ireturn, 1) := by decide +kernel
theorem dX12_nameOf_73 : decode cX12_nameOf 73 = .ok (.aload_n 0, 1) := by decide +kernel
theorem dX12_nameOf_74 : decode cX12_nameOf 74 = .ok (.getfield 127, 3) := by decide +kernel
theorem dX12_nameOf_77 : decode cX12_nameOf 77 = .ok (.bipush 104, 2) := by decide +kernel
theorem dX12_nameOf_79 : decode cX12_nameOf 79 = .ok (.bipush 101, 2) := by decide +kernel
theorem dX12_nameOf_81 : decode cX12_nameOf 81 = .ok (.bipush 97, 2) := by decide +kernel
theorem dX12_nameOf_83 : decode cX12_nameOf 83 = .ok (.bipush 114, 2) := by decide +kernel
theorem dX12_nameOf_85 : decode cX12_nameOf 85 = .ok (.bipush 100, 2) := by decide +kernel
theorem dX12_nameOf_87 : decode cX12_nameOf 87 = .ok (.invokestatic 148, 3) := by decide +kernel
theorem dX12_nameOf_90 : decode cX12_nameOf 90 = .ok (.lcmp, 1) := by decide +kernel
theorem dX12_nameOf_91 : decode cX12_nameOf 91 = .ok (.ifCond .ne 5, 3) := by decide +kernel
theorem dX12_nameOf_94 : decode cX12_nameOf 94 = .ok (.iconst 3, 1) := by decide +kernel
theorem dX12_nameOf_95 : decode cX12_nameOf 95 = .ok (.ireturn, 1) := by decide +kernel
theorem dX12_nameOf_96 : decode cX12_nameOf 96 = .ok (.aload_n 0, 1) := by decide +kernel
theorem dX12_nameOf_97 : decode cX12_nameOf 97 = .ok (.getfield 127, 3) := by decide +kernel
theorem dX12_nameOf_100 : decode cX12_nameOf 100 = .ok (.bipush 114, 2) := by decide +kernel
theorem dX12_nameOf_102 : decode cX12_nameOf 102 = .ok (.bipush 111, 2) := by decide +kernel
theorem dX12_nameOf_104 : decode cX12_nameOf 104 = .ok (.bipush 108, 2) := by decide +kernel
theorem dX12_nameOf_106 : decode cX12_nameOf 106 = .ok (.bipush 108, 2) := by decide +kernel
theorem dX12_nameOf_108 : decode cX12_nameOf 108 = .ok (.invokestatic 144, 3) := by decide +kernel
theorem dX12_nameOf_111 : decode cX12_nameOf 111 = .ok (.lcmp, 1) := by decide +kernel
theorem dX12_nameOf_112 : decode cX12_nameOf 112 = .ok (.ifCond .ne 5, 3) := by decide +kernel
theorem dX12_nameOf_115 : decode cX12_nameOf 115 = .ok (.iconst 4, 1) := by decide +kernel
theorem dX12_nameOf_116 : decode cX12_nameOf 116 = .ok (.ireturn, 1) := by decide +kernel
theorem dX12_nameOf_117 : decode cX12_nameOf 117 = .ok (.aload_n 0, 1) := by decide +kernel
theorem dX12_nameOf_118 : decode cX12_nameOf 118 = .ok (.getfield 127, 3) := by decide +kernel
theorem dX12_nameOf_121 : decode cX12_nameOf 121 = .ok (.bipush 112, 2) := by decide +kernel
theorem dX12_nameOf_123 : decode cX12_nameOf 123 = .ok (.bipush 108, 2) := by decide +kernel
theorem dX12_nameOf_125 : decode cX12_nameOf 125 = .ok (.bipush 97, 2) := by decide +kernel
theorem dX12_nameOf_127 : decode cX12_nameOf 127 = .ok (.bipush 99, 2) := by decide +kernel
theorem dX12_nameOf_129 : decode cX12_nameOf 129 = .ok (.bipush 101, 2) := by decide +kernel
theorem dX12_nameOf_131 : decode cX12_nameOf 131 = .ok (.invokestatic 148, 3) := by decide +kernel
theorem dX12_nameOf_134 : decode cX12_nameOf 134 = .ok (.lcmp, 1) := by decide +kernel
theorem dX12_nameOf_135 : decode cX12_nameOf 135 = .ok (.ifCond .ne 7, 3) := by decide +kernel
theorem dX12_nameOf_138 : decode cX12_nameOf 138 = .ok (.iconst 5, 1) := by decide +kernel
theorem dX12_nameOf_139 : decode cX12_nameOf 139 = .ok (.goto 28, 3) := by decide +kernel
theorem dX12_nameOf_142 : decode cX12_nameOf 142 = .ok (.aload_n 0, 1) := by decide +kernel
theorem dX12_nameOf_143 : decode cX12_nameOf 143 = .ok (.getfield 127, 3) := by decide +kernel
theorem dX12_nameOf_146 : decode cX12_nameOf 146 = .ok (.bipush 119, 2) := by decide +kernel
theorem dX12_nameOf_148 : decode cX12_nameOf 148 = .ok (.bipush 101, 2) := by decide +kernel
theorem dX12_nameOf_150 : decode cX12_nameOf 150 = .ok (.bipush 97, 2) := by decide +kernel
theorem dX12_nameOf_152 : decode cX12_nameOf 152 = .ok (.bipush 114, 2) := by decide +kernel
theorem dX12_nameOf_154 : decode cX12_nameOf 154 = .ok (.invokestatic 144, 3) := by decide +kernel
theorem dX12_nameOf_157 : decode cX12_nameOf 157 = .ok (.lcmp, 1) := by decide +kernel
theorem dX12_nameOf_158 : decode cX12_nameOf 158 = .ok (.ifCond .ne 8, 3) := by decide +kernel
theorem dX12_nameOf_161 : decode cX12_nameOf 161 = .ok (.bipush 6, 2) := by decide +kernel
theorem dX12_nameOf_163 : decode cX12_nameOf 163 = .ok (.goto 4, 3) := by decide +kernel
theorem dX12_nameOf_166 : decode cX12_nameOf 166 = .ok (.iconst (-1), 1) := by decide +kernel
theorem dX12_nameOf_167 : decode cX12_nameOf 167 = .ok (.ireturn, 1) := by decide +kernel
def m12_nameOf : pMT := (yX12_nameOf, cX12_nameOf, 1, some .int)
theorem mo12_nameOf : mOK m12_nameOf 0 := ⟨tb_i 1575 (by decide +kernel), wi_RX12, ⟨wn_RX12.1, wn_RX12.2, by decide +kernel⟩, by decide, plainFor_of_name wp_RX12⟩
theorem mv12_nameOf : mV m12_nameOf := ⟨tb_i 1574 (by decide +kernel), tb_p 83 (by decide +kernel)⟩
def f12_nameOf (I : (Nat → Nat → Int32)) (L : (Nat → Nat → Int64)) (a0 : Nat) : Option (Int32) := (if (I a0 9) = (2 : Int32) then (f12_w6 (115 : Int32) (117 : Int32) (110 : Int32) (100 : Int32) (97 : Int32) (121 : Int32)).bind fun r2 => (if (lg_cmp (L a0 11) r2) = 0 then some ((0 : Int32)) else (f12_w3 (107 : Int32) (101 : Int32) (121 : Int32)).bind fun r5 => (if (lg_cmp (L a0 11) r5) = 0 then some ((1 : Int32)) else (f12_w3 (119 : Int32) (104 : Int32) (111 : Int32)).bind fun r8 => (if (lg_cmp (L a0 11) r8) = 0 then some ((2 : Int32)) else (f12_w5 (104 : Int32) (101 : Int32) (97 : Int32) (114 : Int32) (100 : Int32)).bind fun r11 => (if (lg_cmp (L a0 11) r11) = 0 then some ((3 : Int32)) else (f12_w4 (114 : Int32) (111 : Int32) (108 : Int32) (108 : Int32)).bind fun r14 => (if (lg_cmp (L a0 11) r14) = 0 then some ((4 : Int32)) else (f12_w5 (112 : Int32) (108 : Int32) (97 : Int32) (99 : Int32) (101 : Int32)).bind fun r17 => (if (lg_cmp (L a0 11) r17) = 0 then some ((5 : Int32)) else (f12_w4 (119 : Int32) (101 : Int32) (97 : Int32) (114 : Int32)).bind fun r20 => (if (lg_cmp (L a0 11) r20) = 0 then some ((6 : Int32)) else some (((-1) : Int32))))))))) else some (((-1) : Int32)))
set_option maxHeartbeats 4000000 in
set_option maxRecDepth 20000 in
theorem o12_nameOf {g : pG} {Qx : Option Value → pW → Prop} {Z : pZ} {I : (Nat → Nat → Int32)} {L : (Nat → Nat → Int64)} {O : (Nat → Nat → Option Nat)} {a0 : Nat} {res : Int32} (d : Nat) (hW : WT Z O) (hZ0 : Z[a0]? = some (12, 34)) (h : f12_nameOf I L a0 = some res) (hQ : Qx (some (.int res)) (Z, I, L, O)) : Ok g (d + 7, RX12, cX12_nameOf, 1, false, 0, 0, Z.length, pSl Z) Qx 0 [(0, .ref a0)] [] (Z, I, L, O) := by
  unfold f12_nameOf at h
  refine ok_aload_n dX12_nameOf_0 0 rfl ?_
  refine ok_getI (ci := 12) (k := 9) dX12_nameOf_1 flRX12_114 rfl hZ0 (by decide) ?_
  refine ok_iconst (v := 2) dX12_nameOf_4 (by decide) ?_
  refine ok_icmp_eq (t := 10) dX12_nameOf_5 (by decide) (fun hc1 => ?_) (fun hc1 => ?_)
  · have h := (if_pos hc1).symm.trans h
    refine ok_aload_n dX12_nameOf_10 0 rfl ?_
    refine ok_getJ (ci := 12) (k := 11) dX12_nameOf_11 flRX12_127 rfl hZ0 (by decide) ?_
    refine ok_bipush (v := 115) dX12_nameOf_14 (by decide) ?_
    refine ok_bipush (v := 117) dX12_nameOf_16 (by decide) ?_
    refine ok_bipush (v := 110) dX12_nameOf_18 (by decide) ?_
    refine ok_bipush (v := 100) dX12_nameOf_20 (by decide) ?_
    refine ok_bipush (v := 97) dX12_nameOf_22 (by decide) ?_
    refine ok_bipush (v := 121) dX12_nameOf_24 (by decide) ?_
    obtain ⟨r2, hr3, h⟩ := bd h
    refine ok_callS (d := ((d + 0) + 6)) (mt := m12_w6) (mc := 0) (ms := 0) (As := [.int 115, .int 117, .int 110, .int 100, .int 97, .int 121]) (r := [.long (L a0 11)]) dX12_nameOf_26 mo12_w6 mv12_w6 lkRX12_158 rfl rfl (Nat.le_of_ble_eq_true rfl) (by show _ + 1 ≤ d + _; omega) (Nat.le_refl _) (Nat.le_refl _) (pRt_mono ?_)
    refine k12_w6 (d + 0) hW  hr3 ?_
    intro _
    show Ok g _ Qx 29 [(0, .ref a0)] [.long r2, .long (L a0 11)] (Z, I, L, O)
    refine ok_lcmp dX12_nameOf_29 ?_
    refine ok_if_ne (t := 35) dX12_nameOf_30 (by decide) (fun hc4 => ?_) (fun hc4 => ?_)
    · have h := (if_neg hc4).symm.trans h
      refine ok_aload_n dX12_nameOf_35 0 rfl ?_
      refine ok_getJ (ci := 12) (k := 11) dX12_nameOf_36 flRX12_127 rfl hZ0 (by decide) ?_
      refine ok_bipush (v := 107) dX12_nameOf_39 (by decide) ?_
      refine ok_bipush (v := 101) dX12_nameOf_41 (by decide) ?_
      refine ok_bipush (v := 121) dX12_nameOf_43 (by decide) ?_
      obtain ⟨r5, hr6, h⟩ := bd h
      refine ok_callS (d := ((d + 3) + 3)) (mt := m12_w3) (mc := 0) (ms := 0) (As := [.int 107, .int 101, .int 121]) (r := [.long (L a0 11)]) dX12_nameOf_45 mo12_w3 mv12_w3 lkRX12_140 rfl rfl (Nat.le_of_ble_eq_true rfl) (by show _ + 1 ≤ d + _; omega) (Nat.le_refl _) (Nat.le_refl _) (pRt_mono ?_)
      refine k12_w3 (d + 3) hW  hr6 ?_
      intro _
      show Ok g _ Qx 48 [(0, .ref a0)] [.long r5, .long (L a0 11)] (Z, I, L, O)
      refine ok_lcmp dX12_nameOf_48 ?_
      refine ok_if_ne (t := 54) dX12_nameOf_49 (by decide) (fun hc7 => ?_) (fun hc7 => ?_)
      · have h := (if_neg hc7).symm.trans h
        refine ok_aload_n dX12_nameOf_54 0 rfl ?_
        refine ok_getJ (ci := 12) (k := 11) dX12_nameOf_55 flRX12_127 rfl hZ0 (by decide) ?_
        refine ok_bipush (v := 119) dX12_nameOf_58 (by decide) ?_
        refine ok_bipush (v := 104) dX12_nameOf_60 (by decide) ?_
        refine ok_bipush (v := 111) dX12_nameOf_62 (by decide) ?_
        obtain ⟨r8, hr9, h⟩ := bd h
        refine ok_callS (d := ((d + 3) + 3)) (mt := m12_w3) (mc := 0) (ms := 0) (As := [.int 119, .int 104, .int 111]) (r := [.long (L a0 11)]) dX12_nameOf_64 mo12_w3 mv12_w3 lkRX12_140 rfl rfl (Nat.le_of_ble_eq_true rfl) (by show _ + 1 ≤ d + _; omega) (Nat.le_refl _) (Nat.le_refl _) (pRt_mono ?_)
        refine k12_w3 (d + 3) hW  hr9 ?_
        intro _
        show Ok g _ Qx 67 [(0, .ref a0)] [.long r8, .long (L a0 11)] (Z, I, L, O)
        refine ok_lcmp dX12_nameOf_67 ?_
        refine ok_if_ne (t := 73) dX12_nameOf_68 (by decide) (fun hc10 => ?_) (fun hc10 => ?_)
        · have h := (if_neg hc10).symm.trans h
          refine ok_aload_n dX12_nameOf_73 0 rfl ?_
          refine ok_getJ (ci := 12) (k := 11) dX12_nameOf_74 flRX12_127 rfl hZ0 (by decide) ?_
          refine ok_bipush (v := 104) dX12_nameOf_77 (by decide) ?_
          refine ok_bipush (v := 101) dX12_nameOf_79 (by decide) ?_
          refine ok_bipush (v := 97) dX12_nameOf_81 (by decide) ?_
          refine ok_bipush (v := 114) dX12_nameOf_83 (by decide) ?_
          refine ok_bipush (v := 100) dX12_nameOf_85 (by decide) ?_
          obtain ⟨r11, hr12, h⟩ := bd h
          refine ok_callS (d := ((d + 1) + 5)) (mt := m12_w5) (mc := 0) (ms := 0) (As := [.int 104, .int 101, .int 97, .int 114, .int 100]) (r := [.long (L a0 11)]) dX12_nameOf_87 mo12_w5 mv12_w5 lkRX12_148 rfl rfl (Nat.le_of_ble_eq_true rfl) (by show _ + 1 ≤ d + _; omega) (Nat.le_refl _) (Nat.le_refl _) (pRt_mono ?_)
          refine k12_w5 (d + 1) hW  hr12 ?_
          intro _
          show Ok g _ Qx 90 [(0, .ref a0)] [.long r11, .long (L a0 11)] (Z, I, L, O)
          refine ok_lcmp dX12_nameOf_90 ?_
          refine ok_if_ne (t := 96) dX12_nameOf_91 (by decide) (fun hc13 => ?_) (fun hc13 => ?_)
          · have h := (if_neg hc13).symm.trans h
            refine ok_aload_n dX12_nameOf_96 0 rfl ?_
            refine ok_getJ (ci := 12) (k := 11) dX12_nameOf_97 flRX12_127 rfl hZ0 (by decide) ?_
            refine ok_bipush (v := 114) dX12_nameOf_100 (by decide) ?_
            refine ok_bipush (v := 111) dX12_nameOf_102 (by decide) ?_
            refine ok_bipush (v := 108) dX12_nameOf_104 (by decide) ?_
            refine ok_bipush (v := 108) dX12_nameOf_106 (by decide) ?_
            obtain ⟨r14, hr15, h⟩ := bd h
            refine ok_callS (d := ((d + 2) + 4)) (mt := m12_w4) (mc := 0) (ms := 0) (As := [.int 114, .int 111, .int 108, .int 108]) (r := [.long (L a0 11)]) dX12_nameOf_108 mo12_w4 mv12_w4 lkRX12_144 rfl rfl (Nat.le_of_ble_eq_true rfl) (by show _ + 1 ≤ d + _; omega) (Nat.le_refl _) (Nat.le_refl _) (pRt_mono ?_)
            refine k12_w4 (d + 2) hW  hr15 ?_
            intro _
            show Ok g _ Qx 111 [(0, .ref a0)] [.long r14, .long (L a0 11)] (Z, I, L, O)
            refine ok_lcmp dX12_nameOf_111 ?_
            refine ok_if_ne (t := 117) dX12_nameOf_112 (by decide) (fun hc16 => ?_) (fun hc16 => ?_)
            · have h := (if_neg hc16).symm.trans h
              refine ok_aload_n dX12_nameOf_117 0 rfl ?_
              refine ok_getJ (ci := 12) (k := 11) dX12_nameOf_118 flRX12_127 rfl hZ0 (by decide) ?_
              refine ok_bipush (v := 112) dX12_nameOf_121 (by decide) ?_
              refine ok_bipush (v := 108) dX12_nameOf_123 (by decide) ?_
              refine ok_bipush (v := 97) dX12_nameOf_125 (by decide) ?_
              refine ok_bipush (v := 99) dX12_nameOf_127 (by decide) ?_
              refine ok_bipush (v := 101) dX12_nameOf_129 (by decide) ?_
              obtain ⟨r17, hr18, h⟩ := bd h
              refine ok_callS (d := ((d + 1) + 5)) (mt := m12_w5) (mc := 0) (ms := 0) (As := [.int 112, .int 108, .int 97, .int 99, .int 101]) (r := [.long (L a0 11)]) dX12_nameOf_131 mo12_w5 mv12_w5 lkRX12_148 rfl rfl (Nat.le_of_ble_eq_true rfl) (by show _ + 1 ≤ d + _; omega) (Nat.le_refl _) (Nat.le_refl _) (pRt_mono ?_)
              refine k12_w5 (d + 1) hW  hr18 ?_
              intro _
              show Ok g _ Qx 134 [(0, .ref a0)] [.long r17, .long (L a0 11)] (Z, I, L, O)
              refine ok_lcmp dX12_nameOf_134 ?_
              refine ok_if_ne (t := 142) dX12_nameOf_135 (by decide) (fun hc19 => ?_) (fun hc19 => ?_)
              · have h := (if_neg hc19).symm.trans h
                refine ok_aload_n dX12_nameOf_142 0 rfl ?_
                refine ok_getJ (ci := 12) (k := 11) dX12_nameOf_143 flRX12_127 rfl hZ0 (by decide) ?_
                refine ok_bipush (v := 119) dX12_nameOf_146 (by decide) ?_
                refine ok_bipush (v := 101) dX12_nameOf_148 (by decide) ?_
                refine ok_bipush (v := 97) dX12_nameOf_150 (by decide) ?_
                refine ok_bipush (v := 114) dX12_nameOf_152 (by decide) ?_
                obtain ⟨r20, hr21, h⟩ := bd h
                refine ok_callS (d := ((d + 2) + 4)) (mt := m12_w4) (mc := 0) (ms := 0) (As := [.int 119, .int 101, .int 97, .int 114]) (r := [.long (L a0 11)]) dX12_nameOf_154 mo12_w4 mv12_w4 lkRX12_144 rfl rfl (Nat.le_of_ble_eq_true rfl) (by show _ + 1 ≤ d + _; omega) (Nat.le_refl _) (Nat.le_refl _) (pRt_mono ?_)
                refine k12_w4 (d + 2) hW  hr21 ?_
                intro _
                show Ok g _ Qx 157 [(0, .ref a0)] [.long r20, .long (L a0 11)] (Z, I, L, O)
                refine ok_lcmp dX12_nameOf_157 ?_
                refine ok_if_ne (t := 166) dX12_nameOf_158 (by decide) (fun hc22 => ?_) (fun hc22 => ?_)
                · have h := (if_neg hc22).symm.trans h
                  refine ok_iconst (v := (-1)) dX12_nameOf_166 (by decide) ?_
                  cases h
                  exact ok_iret dX12_nameOf_167 hQ
                · have h := (if_pos hc22).symm.trans h
                  refine ok_bipush (v := 6) dX12_nameOf_161 (by decide) ?_
                  refine ok_goto (t := 167) dX12_nameOf_163 (by decide) ?_
                  cases h
                  exact ok_iret dX12_nameOf_167 hQ
              · have h := (if_pos hc19).symm.trans h
                refine ok_iconst (v := 5) dX12_nameOf_138 (by decide) ?_
                refine ok_goto (t := 167) dX12_nameOf_139 (by decide) ?_
                cases h
                exact ok_iret dX12_nameOf_167 hQ
            · have h := (if_pos hc16).symm.trans h
              refine ok_iconst (v := 4) dX12_nameOf_115 (by decide) ?_
              cases h
              exact ok_iret dX12_nameOf_116 hQ
          · have h := (if_pos hc13).symm.trans h
            refine ok_iconst (v := 3) dX12_nameOf_94 (by decide) ?_
            cases h
            exact ok_iret dX12_nameOf_95 hQ
        · have h := (if_pos hc10).symm.trans h
          refine ok_iconst (v := 2) dX12_nameOf_71 (by decide) ?_
          cases h
          exact ok_iret dX12_nameOf_72 hQ
      · have h := (if_pos hc7).symm.trans h
        refine ok_iconst (v := 1) dX12_nameOf_52 (by decide) ?_
        cases h
        exact ok_iret dX12_nameOf_53 hQ
    · have h := (if_pos hc4).symm.trans h
      refine ok_iconst (v := 0) dX12_nameOf_33 (by decide) ?_
      cases h
      exact ok_iret dX12_nameOf_34 hQ
  · have h := (if_neg hc1).symm.trans h
    refine ok_iconst (v := (-1)) dX12_nameOf_8 (by decide) ?_
    cases h
    exact ok_iret dX12_nameOf_9 hQ
theorem k12_nameOf {g : pG} {Q : Option Value → pW → Prop} {Z : pZ} {I : (Nat → Nat → Int32)} {L : (Nat → Nat → Int64)} {O : (Nat → Nat → Option Nat)} {a0 : Nat} {res : Int32} (d : Nat) (hW : WT Z O) (hZ0 : Z[a0]? = some (12, 34)) (h : f12_nameOf I L a0 = some res) (hQ : Q (some (.int res)) (Z, I, L, O)) : CT g (d + 7) m12_nameOf 0 0 [.ref a0] (Z, I, L, O) Q :=
  ct_of_ok (mt := m12_nameOf) (ini := false) mo12_nameOf.2.2.2.2 (fun h => by cases h) (Nat.le_of_ble_eq_true rfl) (o12_nameOf d hW hZ0 h ⟨trivial, hQ, rfl, rfl⟩)
theorem dX12_isOf_0 : decode cX12_isOf 0 = .ok (.iload_n 1, 1) := by decide +kernel
theorem dX12_isOf_1 : decode cX12_isOf 1 = .ok (.iconst 2, 1) := by decide +kernel
theorem dX12_isOf_2 : decode cX12_isOf 2 = .ok (.if_icmp .lt 27, 3) := by decide +kernel
theorem dX12_isOf_5 : decode cX12_isOf 5 = .ok (.iload_n 1, 1) := by decide +kernel
theorem dX12_isOf_6 : decode cX12_isOf 6 = .ok (.iconst 4, 1) := by decide +kernel
theorem dX12_isOf_7 : decode cX12_isOf 7 = .ok (.if_icmp .ge 14, 3) := by decide +kernel
theorem dX12_isOf_10 : decode cX12_isOf 10 = .ok (.aload_n 0, 1) := by decide +kernel
theorem dX12_isOf_11 : decode cX12_isOf 11 = .ok (.getfield 162, 3) := by decide +kernel
theorem dX12_isOf_14 : decode cX12_isOf 14 = .ok (.iconst 2, 1) := by decide +kernel
theorem dX12_isOf_15 : decode cX12_isOf 15 = .ok (.if_icmp .eq 18, 3) := by decide +kernel
theorem dX12_isOf_18 : decode cX12_isOf 18 = .ok (.goto 11, 3) := by decide +kernel
theorem dX12_isOf_21 : decode cX12_isOf 21 = .ok (.aload_n 0, 1) := by decide +kernel
theorem dX12_isOf_22 : decode cX12_isOf 22 = .ok (.getfield 162, 3) := by decide +kernel
theorem dX12_isOf_25 : decode cX12_isOf 25 = .ok (.iconst 1, 1) := by decide +kernel
theorem dX12_isOf_26 : decode cX12_isOf 26 = .ok (.if_icmp .eq 7, 3) := by decide +kernel
theorem dX12_isOf_29 : decode cX12_isOf 29 = .ok (.iconst 1, 1) := by decide +kernel
theorem dX12_isOf_30 : decode cX12_isOf 30 = .ok (.goto 4, 3) := by decide +kernel
theorem dX12_isOf_33 : decode cX12_isOf 33 = .ok (.iconst 0, 1) := by decide +kernel
theorem dX12_isOf_34 : decode cX12_isOf 34 = .ok (.ireturn, 1) := by decide +kernel
def m12_isOf : pMT := (yX12_isOf, cX12_isOf, 2, some .boolean)
theorem mo12_isOf : mOK m12_isOf 1 := ⟨tb_i 1579 (by decide +kernel), wi_RX12, ⟨wn_RX12.1, wn_RX12.2, by decide +kernel⟩, by decide, plainFor_of_name wp_RX12⟩
theorem mv12_isOf : mV m12_isOf := ⟨tb_i 1578 (by decide +kernel), tb_p 84 (by decide +kernel)⟩
def f12_isOf (I : (Nat → Nat → Int32)) (a0 : Nat) (x1 : Int32) : Option (Int32) := (if x1 < (2 : Int32) then some ((1 : Int32)) else (if (4 : Int32) ≤ x1 then (if (I a0 14) = (1 : Int32) then some ((0 : Int32)) else some ((1 : Int32))) else (if (I a0 14) = (2 : Int32) then some ((0 : Int32)) else some ((1 : Int32)))))
set_option maxHeartbeats 4000000 in
set_option maxRecDepth 20000 in
theorem o12_isOf {g : pG} {Qx : Option Value → pW → Prop} {Z : pZ} {I : (Nat → Nat → Int32)} {L : (Nat → Nat → Int64)} {O : (Nat → Nat → Option Nat)} {a0 : Nat} {x1 : Int32} {res : Int32} (d : Nat) (hW : WT Z O) (hZ0 : Z[a0]? = some (12, 34)) (h : f12_isOf I a0 x1 = some res) (hQ : (res = 0 ∨ res = 1) → Qx (some (.int res)) (Z, I, L, O)) : Ok g (d + 2, RX12, cX12_isOf, 2, false, 0, 0, Z.length, pSl Z) Qx 0 [(0, .ref a0), (1, .int x1)] [] (Z, I, L, O) := by
  unfold f12_isOf at h
  refine ok_iload_n dX12_isOf_0 1 rfl ?_
  refine ok_iconst (v := 2) dX12_isOf_1 (by decide) ?_
  refine ok_icmp_lt (t := 29) dX12_isOf_2 (by decide) (fun hc1 => ?_) (fun hc1 => ?_)
  · have h := (if_pos hc1).symm.trans h
    refine ok_iconst (v := 1) dX12_isOf_29 (by decide) ?_
    refine ok_goto (t := 34) dX12_isOf_30 (by decide) ?_
    cases h
    exact ok_iret dX12_isOf_34 (hQ (Or.inr rfl))
  · have h := (if_neg hc1).symm.trans h
    refine ok_iload_n dX12_isOf_5 1 rfl ?_
    refine ok_iconst (v := 4) dX12_isOf_6 (by decide) ?_
    refine ok_icmp_ge (t := 21) dX12_isOf_7 (by decide) (fun hc2 => ?_) (fun hc2 => ?_)
    · have h := (if_pos hc2).symm.trans h
      refine ok_aload_n dX12_isOf_21 0 rfl ?_
      refine ok_getI (ci := 12) (k := 14) dX12_isOf_22 flRX12_162 rfl hZ0 (by decide) ?_
      refine ok_iconst (v := 1) dX12_isOf_25 (by decide) ?_
      refine ok_icmp_eq (t := 33) dX12_isOf_26 (by decide) (fun hc3 => ?_) (fun hc3 => ?_)
      · have h := (if_pos hc3).symm.trans h
        refine ok_iconst (v := 0) dX12_isOf_33 (by decide) ?_
        cases h
        exact ok_iret dX12_isOf_34 (hQ (Or.inl rfl))
      · have h := (if_neg hc3).symm.trans h
        refine ok_iconst (v := 1) dX12_isOf_29 (by decide) ?_
        refine ok_goto (t := 34) dX12_isOf_30 (by decide) ?_
        cases h
        exact ok_iret dX12_isOf_34 (hQ (Or.inr rfl))
    · have h := (if_neg hc2).symm.trans h
      refine ok_aload_n dX12_isOf_10 0 rfl ?_
      refine ok_getI (ci := 12) (k := 14) dX12_isOf_11 flRX12_162 rfl hZ0 (by decide) ?_
      refine ok_iconst (v := 2) dX12_isOf_14 (by decide) ?_
      refine ok_icmp_eq (t := 33) dX12_isOf_15 (by decide) (fun hc4 => ?_) (fun hc4 => ?_)
      · have h := (if_pos hc4).symm.trans h
        refine ok_iconst (v := 0) dX12_isOf_33 (by decide) ?_
        cases h
        exact ok_iret dX12_isOf_34 (hQ (Or.inl rfl))
      · have h := (if_neg hc4).symm.trans h
        refine ok_goto (t := 29) dX12_isOf_18 (by decide) ?_
        refine ok_iconst (v := 1) dX12_isOf_29 (by decide) ?_
        refine ok_goto (t := 34) dX12_isOf_30 (by decide) ?_
        cases h
        exact ok_iret dX12_isOf_34 (hQ (Or.inr rfl))
theorem k12_isOf {g : pG} {Q : Option Value → pW → Prop} {Z : pZ} {I : (Nat → Nat → Int32)} {L : (Nat → Nat → Int64)} {O : (Nat → Nat → Option Nat)} {a0 : Nat} {x1 : Int32} {res : Int32} (d : Nat) (hW : WT Z O) (hZ0 : Z[a0]? = some (12, 34)) (h : f12_isOf I a0 x1 = some res) (hQ : Q (some (.int res)) (Z, I, L, O)) : CT g (d + 2) m12_isOf 0 0 [.ref a0, .int x1] (Z, I, L, O) Q :=
  ct_of_ok (mt := m12_isOf) (ini := false) mo12_isOf.2.2.2.2 (fun h => by cases h) (Nat.le_of_ble_eq_true rfl) (o12_isOf d hW hZ0 h (fun hb => ⟨hb, hQ, rfl, rfl⟩))
theorem dX12_rank_0 : decode cX12_rank 0 = .ok (.iload_n 0, 1) := by decide +kernel
theorem dX12_rank_1 : decode cX12_rank 1 = .ok (.bipush 40, 2) := by decide +kernel
theorem dX12_rank_3 : decode cX12_rank 3 = .ok (.if_icmp .lt 7, 3) := by decide +kernel
theorem dX12_rank_6 : decode cX12_rank 6 = .ok (.iconst 0, 1) := by decide +kernel
theorem dX12_rank_7 : decode cX12_rank 7 = .ok (.goto 66, 3) := by decide +kernel
theorem dX12_rank_10 : decode cX12_rank 10 = .ok (.iload_n 0, 1) := by decide +kernel
theorem dX12_rank_11 : decode cX12_rank 11 = .ok (.bipush 22, 2) := by decide +kernel
theorem dX12_rank_13 : decode cX12_rank 13 = .ok (.if_icmp .ne 7, 3) := by decide +kernel
theorem dX12_rank_16 : decode cX12_rank 16 = .ok (.iconst 1, 1) := by decide +kernel
theorem dX12_rank_17 : decode cX12_rank 17 = .ok (.goto 56, 3) := by decide +kernel
theorem dX12_rank_20 : decode cX12_rank 20 = .ok (.iload_n 0, 1) := by decide +kernel
theorem dX12_rank_21 : decode cX12_rank 21 = .ok (.bipush 21, 2) := by decide +kernel
theorem dX12_rank_23 : decode cX12_rank 23 = .ok (.if_icmp .ne 7, 3) := by decide +kernel
theorem dX12_rank_26 : decode cX12_rank 26 = .ok (.iconst 2, 1) := by decide +kernel
theorem dX12_rank_27 : decode cX12_rank 27 = .ok (.goto 46, 3) := by decide +kernel
theorem dX12_rank_30 : decode cX12_rank 30 = .ok (.iload_n 0, 1) := by decide +kernel
theorem dX12_rank_31 : decode cX12_rank 31 = .ok (.bipush 20, 2) := by decide +kernel
theorem dX12_rank_33 : decode cX12_rank 33 = .ok (.if_icmp .ne 7, 3) := by decide +kernel
theorem dX12_rank_36 : decode cX12_rank 36 = .ok (.iconst 3, 1) := by decide +kernel
theorem dX12_rank_37 : decode cX12_rank 37 = .ok (.goto 36, 3) := by decide +kernel
theorem dX12_rank_40 : decode cX12_rank 40 = .ok (.iload_n 0, 1) := by decide +kernel
theorem dX12_rank_41 : decode cX12_rank 41 = .ok (.bipush 10, 2) := by decide +kernel
theorem dX12_rank_43 : decode cX12_rank 43 = .ok (.if_icmp .lt 7, 3) := by decide +kernel
theorem dX12_rank_46 : decode cX12_rank 46 = .ok (.iconst 4, 1) := by decide +kernel
theorem dX12_rank_47 : decode cX12_rank 47 = .ok (.goto 26, 3) := by decide +kernel
theorem dX12_rank_50 : decode cX12_rank 50 = .ok (.iload_n 0, 1) := by decide +kernel
theorem dX12_rank_51 : decode cX12_rank 51 = .ok (.bipush 8, 2) := by decide +kernel
theorem dX12_rank_53 : decode cX12_rank 53 = .ok (.if_icmp .lt 8, 3) := by decide +kernel
theorem dX12_rank_56 : decode cX12_rank 56 = .ok (.bipush 6, 2) := by decide +kernel
theorem dX12_rank_58 : decode cX12_rank 58 = .ok (.goto 15, 3) := by decide +kernel
theorem dX12_rank_61 : decode cX12_rank 61 = .ok (.iload_n 0, 1) := by decide +kernel
theorem dX12_rank_62 : decode cX12_rank 62 = .ok (.bipush 6, 2) := by decide +kernel
theorem dX12_rank_64 : decode cX12_rank 64 = .ok (.if_icmp .lt 7, 3) := by decide +kernel
theorem dX12_rank_67 : decode cX12_rank 67 = .ok (.iconst 5, 1) := by decide +kernel
theorem dX12_rank_68 : decode cX12_rank 68 = .ok (.goto 5, 3) := by decide +kernel
theorem dX12_rank_71 : decode cX12_rank 71 = .ok (.bipush 7, 2) := by decide +kernel
theorem dX12_rank_73 : decode cX12_rank 73 = .ok (.ireturn, 1) := by decide +kernel
def m12_rank : pMT := (yX12_rank, cX12_rank, 1, some .int)
theorem mo12_rank : mOK m12_rank 1 := ⟨tb_i 1551 (by decide +kernel), wi_RX12, ⟨wn_RX12.1, wn_RX12.2, by decide +kernel⟩, by decide, plainFor_of_name wp_RX12⟩
theorem mv12_rank : mS m12_rank := (tb_i 1550 (by decide +kernel) : Cond.static yX12_rank ∈ lw_tbl)
def f12_rank (x0 : Int32) : Option (Int32) := (if x0 < (40 : Int32) then (if x0 = (22 : Int32) then some ((1 : Int32)) else (if x0 = (21 : Int32) then some ((2 : Int32)) else (if x0 = (20 : Int32) then some ((3 : Int32)) else (if x0 < (10 : Int32) then (if x0 < (8 : Int32) then (if x0 < (6 : Int32) then some ((7 : Int32)) else some ((5 : Int32))) else some ((6 : Int32))) else some ((4 : Int32)))))) else some ((0 : Int32)))
set_option maxHeartbeats 4000000 in
set_option maxRecDepth 20000 in
theorem o12_rank {g : pG} {Qx : Option Value → pW → Prop} {Z : pZ} {I : (Nat → Nat → Int32)} {L : (Nat → Nat → Int64)} {O : (Nat → Nat → Option Nat)} {x0 : Int32} {res : Int32} (d : Nat) (hW : WT Z O) (h : f12_rank x0 = some res) (hQ : Qx (some (.int res)) (Z, I, L, O)) : Ok g (d + 2, RX12, cX12_rank, 1, false, 0, 0, Z.length, pSl Z) Qx 0 [(0, .int x0)] [] (Z, I, L, O) := by
  unfold f12_rank at h
  refine ok_iload_n dX12_rank_0 0 rfl ?_
  refine ok_bipush (v := 40) dX12_rank_1 (by decide) ?_
  refine ok_icmp_lt (t := 10) dX12_rank_3 (by decide) (fun hc1 => ?_) (fun hc1 => ?_)
  · have h := (if_pos hc1).symm.trans h
    refine ok_iload_n dX12_rank_10 0 rfl ?_
    refine ok_bipush (v := 22) dX12_rank_11 (by decide) ?_
    refine ok_icmp_ne (t := 20) dX12_rank_13 (by decide) (fun hc2 => ?_) (fun hc2 => ?_)
    · have h := (if_neg hc2).symm.trans h
      refine ok_iload_n dX12_rank_20 0 rfl ?_
      refine ok_bipush (v := 21) dX12_rank_21 (by decide) ?_
      refine ok_icmp_ne (t := 30) dX12_rank_23 (by decide) (fun hc3 => ?_) (fun hc3 => ?_)
      · have h := (if_neg hc3).symm.trans h
        refine ok_iload_n dX12_rank_30 0 rfl ?_
        refine ok_bipush (v := 20) dX12_rank_31 (by decide) ?_
        refine ok_icmp_ne (t := 40) dX12_rank_33 (by decide) (fun hc4 => ?_) (fun hc4 => ?_)
        · have h := (if_neg hc4).symm.trans h
          refine ok_iload_n dX12_rank_40 0 rfl ?_
          refine ok_bipush (v := 10) dX12_rank_41 (by decide) ?_
          refine ok_icmp_lt (t := 50) dX12_rank_43 (by decide) (fun hc5 => ?_) (fun hc5 => ?_)
          · have h := (if_pos hc5).symm.trans h
            refine ok_iload_n dX12_rank_50 0 rfl ?_
            refine ok_bipush (v := 8) dX12_rank_51 (by decide) ?_
            refine ok_icmp_lt (t := 61) dX12_rank_53 (by decide) (fun hc6 => ?_) (fun hc6 => ?_)
            · have h := (if_pos hc6).symm.trans h
              refine ok_iload_n dX12_rank_61 0 rfl ?_
              refine ok_bipush (v := 6) dX12_rank_62 (by decide) ?_
              refine ok_icmp_lt (t := 71) dX12_rank_64 (by decide) (fun hc7 => ?_) (fun hc7 => ?_)
              · have h := (if_pos hc7).symm.trans h
                refine ok_bipush (v := 7) dX12_rank_71 (by decide) ?_
                cases h
                exact ok_iret dX12_rank_73 hQ
              · have h := (if_neg hc7).symm.trans h
                refine ok_iconst (v := 5) dX12_rank_67 (by decide) ?_
                refine ok_goto (t := 73) dX12_rank_68 (by decide) ?_
                cases h
                exact ok_iret dX12_rank_73 hQ
            · have h := (if_neg hc6).symm.trans h
              refine ok_bipush (v := 6) dX12_rank_56 (by decide) ?_
              refine ok_goto (t := 73) dX12_rank_58 (by decide) ?_
              cases h
              exact ok_iret dX12_rank_73 hQ
          · have h := (if_neg hc5).symm.trans h
            refine ok_iconst (v := 4) dX12_rank_46 (by decide) ?_
            refine ok_goto (t := 73) dX12_rank_47 (by decide) ?_
            cases h
            exact ok_iret dX12_rank_73 hQ
        · have h := (if_pos hc4).symm.trans h
          refine ok_iconst (v := 3) dX12_rank_36 (by decide) ?_
          refine ok_goto (t := 73) dX12_rank_37 (by decide) ?_
          cases h
          exact ok_iret dX12_rank_73 hQ
      · have h := (if_pos hc3).symm.trans h
        refine ok_iconst (v := 2) dX12_rank_26 (by decide) ?_
        refine ok_goto (t := 73) dX12_rank_27 (by decide) ?_
        cases h
        exact ok_iret dX12_rank_73 hQ
    · have h := (if_pos hc2).symm.trans h
      refine ok_iconst (v := 1) dX12_rank_16 (by decide) ?_
      refine ok_goto (t := 73) dX12_rank_17 (by decide) ?_
      cases h
      exact ok_iret dX12_rank_73 hQ
  · have h := (if_neg hc1).symm.trans h
    refine ok_iconst (v := 0) dX12_rank_6 (by decide) ?_
    refine ok_goto (t := 73) dX12_rank_7 (by decide) ?_
    cases h
    exact ok_iret dX12_rank_73 hQ
theorem k12_rank {g : pG} {Q : Option Value → pW → Prop} {Z : pZ} {I : (Nat → Nat → Int32)} {L : (Nat → Nat → Int64)} {O : (Nat → Nat → Option Nat)} {x0 : Int32} {res : Int32} (d : Nat) (hW : WT Z O) (h : f12_rank x0 = some res) (hQ : Q (some (.int res)) (Z, I, L, O)) : CT g (d + 2) m12_rank 0 0 [.int x0] (Z, I, L, O) Q :=
  ct_of_ok (mt := m12_rank) (ini := false) mo12_rank.2.2.2.2 (fun h => by cases h) (Nat.le_of_ble_eq_true rfl) (o12_rank d hW  h ⟨trivial, hQ, rfl, rfl⟩)
theorem dX12_settle_0 : decode cX12_settle 0 = .ok (.aload_n 0, 1) := by decide +kernel
theorem dX12_settle_1 : decode cX12_settle 1 = .ok (.getfield 165, 3) := by decide +kernel
theorem dX12_settle_4 : decode cX12_settle 4 = .ok (.ifCond .le 89, 3) := by decide +kernel
theorem dX12_settle_7 : decode cX12_settle 7 = .ok (.aload_n 0, 1) := by decide +kernel
theorem dX12_settle_8 : decode cX12_settle 8 = .ok (.getfield 29, 3) := by decide +kernel
theorem dX12_settle_11 : decode cX12_settle 11 = .ok (.aload_n 0, 1) := by decide +kernel
theorem dX12_settle_12 : decode cX12_settle 12 = .ok (.getfield 165, 3) := by decide +kernel
theorem dX12_settle_15 : decode cX12_settle 15 = .ok (.iconst 1, 1) := by decide +kernel
theorem dX12_settle_16 : decode cX12_settle 16 = .ok (.isub, 1) := by decide +kernel
theorem dX12_settle_17 : decode cX12_settle 17 = .ok (.iaload, 1) := by decide +kernel
theorem dX12_settle_18 : decode cX12_settle 18 = .ok (.invokestatic 168, 3) := by decide +kernel
theorem dX12_settle_21 : decode cX12_settle 21 = .ok (.iload_n 1, 1) := by decide +kernel
theorem dX12_settle_22 : decode cX12_settle 22 = .ok (.if_icmp .lt 71, 3) := by decide +kernel
theorem dX12_settle_25 : decode cX12_settle 25 = .ok (.aload_n 0, 1) := by decide +kernel
theorem dX12_settle_26 : decode cX12_settle 26 = .ok (.dup, 1) := by decide +kernel
theorem dX12_settle_27 : decode cX12_settle 27 = .ok (.getfield 165, 3) := by decide +kernel
theorem dX12_settle_30 : decode cX12_settle 30 = .ok (.iconst 1, 1) := by decide +kernel
theorem dX12_settle_31 : decode cX12_settle 31 = .ok (.isub, 1) := by decide +kernel
theorem dX12_settle_32 : decode cX12_settle 32 = .ok (.putfield 165, 3) := by decide +kernel
theorem dX12_settle_35 : decode cX12_settle 35 = .ok (.aload_n 0, 1) := by decide +kernel
theorem dX12_settle_36 : decode cX12_settle 36 = .ok (.aload_n 0, 1) := by decide +kernel
theorem dX12_settle_37 : decode cX12_settle 37 = .ok (.getfield 29, 3) := by decide +kernel
theorem dX12_settle_40 : decode cX12_settle 40 = .ok (.aload_n 0, 1) := by decide +kernel
theorem dX12_settle_41 : decode cX12_settle 41 = .ok (.getfield 165, 3) := by decide +kernel
theorem dX12_settle_44 : decode cX12_settle 44 = .ok (.iaload, 1) := by decide +kernel
theorem dX12_settle_45 : decode cX12_settle 45 = .ok (.iconst 0, 1) := by decide +kernel
theorem dX12_settle_46 : decode cX12_settle 46 = .ok (.invokevirtual 171, 3) := by decide +kernel
theorem dX12_settle_49 : decode cX12_settle 49 = .ok (.aload_n 0, 1) := by decide +kernel
theorem dX12_settle_50 : decode cX12_settle 50 = .ok (.getfield 29, 3) := by decide +kernel
theorem dX12_settle_53 : decode cX12_settle 53 = .ok (.aload_n 0, 1) := by decide +kernel
theorem dX12_settle_54 : decode cX12_settle 54 = .ok (.getfield 165, 3) := by decide +kernel
theorem dX12_settle_57 : decode cX12_settle 57 = .ok (.iaload, 1) := by decide +kernel
theorem dX12_settle_58 : decode cX12_settle 58 = .ok (.invokestatic 168, 3) := by decide +kernel
theorem dX12_settle_61 : decode cX12_settle 61 = .ok (.bipush 7, 2) := by decide +kernel
theorem dX12_settle_63 : decode cX12_settle 63 = .ok (.if_icmp .eq 17, 3) := by decide +kernel
theorem dX12_settle_66 : decode cX12_settle 66 = .ok (.aload_n 0, 1) := by decide +kernel
theorem dX12_settle_67 : decode cX12_settle 67 = .ok (.getfield 29, 3) := by decide +kernel
theorem dX12_settle_70 : decode cX12_settle 70 = .ok (.aload_n 0, 1) := by decide +kernel
theorem dX12_settle_71 : decode cX12_settle 71 = .ok (.getfield 165, 3) := by decide +kernel
theorem dX12_settle_74 : decode cX12_settle 74 = .ok (.iaload, 1) := by decide +kernel
theorem dX12_settle_75 : decode cX12_settle 75 = .ok (.bipush 20, 2) := by decide +kernel
theorem dX12_settle_77 : decode cX12_settle 77 = .ok (.if_icmp .ne (-77), 3) := by decide +kernel
theorem dX12_settle_80 : decode cX12_settle 80 = .ok (.aload_n 0, 1) := by decide +kernel
theorem dX12_settle_81 : decode cX12_settle 81 = .ok (.dup, 1) := by decide +kernel
theorem dX12_settle_82 : decode cX12_settle 82 = .ok (.getfield 175, 3) := by decide +kernel
theorem dX12_settle_85 : decode cX12_settle 85 = .ok (.iconst 1, 1) := by decide +kernel
theorem dX12_settle_86 : decode cX12_settle 86 = .ok (.isub, 1) := by decide +kernel
theorem dX12_settle_87 : decode cX12_settle 87 = .ok (.putfield 175, 3) := by decide +kernel
theorem dX12_settle_90 : decode cX12_settle 90 = .ok (.goto (-90), 3) := by decide +kernel
theorem dX12_settle_93 : decode cX12_settle 93 = .ok (.return_, 1) := by decide +kernel
def m12_settle : pMT := (yX12_settle, cX12_settle, 2, none)
theorem mo12_settle : mOK m12_settle 1 := ⟨tb_i 1559 (by decide +kernel), wi_RX12, ⟨wn_RX12.1, wn_RX12.2, by decide +kernel⟩, by decide, plainFor_of_name wp_RX12⟩
theorem mv12_settle : mV m12_settle := ⟨tb_i 1558 (by decide +kernel), tb_p 79 (by decide +kernel)⟩
def f12_settle_c0 (n : Nat) (O : (Nat → Nat → Option Nat)) : Nat → (Nat → Nat → Int32) → Nat → Int32 → Option ((Nat → Nat → Int32))
  | 0, _, _, _ => none
  | m + 1, I, b0, y1 => (if (I b0 16) ≤ 0 then some (I) else (if ((I b0 16) - 1) < 0 ∨ 160 ≤ ((I b0 16) - 1).toNatClampNeg then none else (f12_rank (I (rO O b0 15) ((I b0 16) - 1).toNatClampNeg)).bind fun r4 => (if r4 < y1 then some (I) else bl (sI I b0 16 ((I b0 16) - 1)) fun I7 => (if (I7 b0 16) < 0 ∨ 160 ≤ (I7 b0 16).toNatClampNeg then none else (f12_emit I7 O b0 (I7 (rO O b0 15) (I7 b0 16).toNatClampNeg) (0 : Int32)).bind fun r9 => (if (r9 b0 16) < 0 ∨ 160 ≤ (r9 b0 16).toNatClampNeg then none else (f12_rank (r9 (rO O b0 15) (r9 b0 16).toNatClampNeg)).bind fun r12 => (if r12 = (7 : Int32) then bl (sI r9 b0 17 ((r9 b0 17) - 1)) fun I15 => f12_settle_c0 n O m I15 b0 y1 else (if (r9 b0 16) < 0 ∨ 160 ≤ (r9 b0 16).toNatClampNeg then none else (if (r9 (rO O b0 15) (r9 b0 16).toNatClampNeg) = (20 : Int32) then bl (sI r9 b0 17 ((r9 b0 17) - 1)) fun I18 => f12_settle_c0 n O m I18 b0 y1 else f12_settle_c0 n O m r9 b0 y1))))))))
set_option maxHeartbeats 4000000 in
set_option maxRecDepth 20000 in
theorem o12_settle_c0 {g : pG} {Qx : Option Value → pW → Prop} {Z : pZ} {L : (Nat → Nat → Int64)} {O : (Nat → Nat → Option Nat)} {n : Nat} {res : (Nat → Nat → Int32)} (d : Nat) (hW : WT Z O) (hQ : Qx none (Z, res, L, O)) : ∀ (m : Nat) (I : (Nat → Nat → Int32)) (b0 : Nat) (y1 : Int32), (Z[b0]? = some (12, 34)) → f12_settle_c0 n O m I b0 y1 = some res → Ok g (d + 3, RX12, cX12_settle, 2, false, 0, 0, Z.length, pSl Z) Qx 0 [(0, .ref b0), (1, .int y1)] [] (Z, I, L, O) := by
  intro m
  induction m with
  | zero => intro I b0 y1 hZ_b0 h; rw [f12_settle_c0] at h; cases h
  | succ m ih =>
    intro I b0 y1 hZ_b0 h
    rw [f12_settle_c0] at h
    refine ok_aload_n dX12_settle_0 0 rfl ?_
    refine ok_getI (ci := 12) (k := 16) dX12_settle_1 flRX12_165 rfl hZ_b0 (by decide) ?_
    refine ok_if_le (t := 93) dX12_settle_4 (by decide) (fun hc1 => ?_) (fun hc1 => ?_)
    · have h := (if_pos hc1).symm.trans h
      cases h
      exact ok_vret dX12_settle_93 hQ
    · have h := (if_neg hc1).symm.trans h
      refine ok_aload_n dX12_settle_7 0 rfl ?_
      have hT2 : Z[(rO O b0 15)]? = some (13, 160) := (wt_f (ci := 12) (k := 15) hW hZ_b0 rfl).2
      refine ok_getR (ci := 12) (k := 15) dX12_settle_8 flRX12_29 rfl hW hZ_b0 (by decide) ?_
      refine ok_aload_n dX12_settle_11 0 rfl ?_
      refine ok_getI (ci := 12) (k := 16) dX12_settle_12 flRX12_165 rfl hZ_b0 (by decide) ?_
      refine ok_iconst (v := 1) dX12_settle_15 (by decide) ?_
      refine ok_isub dX12_settle_16 ?_
      obtain ⟨hg3, h⟩ := gd h
      refine ok_iald2 (N := ((I b0 16) - 1).toNatClampNeg) dX12_settle_17 hT2 hg3 rfl ?_
      obtain ⟨r4, hr5, h⟩ := bd h
      refine ok_callS (d := ((d + 0) + 2)) (mt := m12_rank) (mc := 0) (ms := 0) (As := [.int (I (rO O b0 15) ((I b0 16) - 1).toNatClampNeg)]) (r := []) dX12_settle_18 mo12_rank mv12_rank lkRX12_168 rfl rfl (Nat.le_of_ble_eq_true rfl) (by show _ + 1 ≤ d + _; omega) (Nat.le_refl _) (Nat.le_refl _) (pRt_mono ?_)
      refine k12_rank (d + 0) hW  hr5 ?_
      intro _
      show Ok g _ Qx 21 [(0, .ref b0), (1, .int y1)] [.int r4] (Z, I, L, O)
      refine ok_iload_n dX12_settle_21 1 rfl ?_
      refine ok_icmp_lt (t := 93) dX12_settle_22 (by decide) (fun hc6 => ?_) (fun hc6 => ?_)
      · have h := (if_pos hc6).symm.trans h
        cases h
        exact ok_vret dX12_settle_93 hQ
      · have h := (if_neg hc6).symm.trans h
        refine ok_aload_n dX12_settle_25 0 rfl ?_
        refine ok_dup dX12_settle_26 rfl ?_
        refine ok_getI (ci := 12) (k := 16) dX12_settle_27 flRX12_165 rfl hZ_b0 (by decide) ?_
        refine ok_iconst (v := 1) dX12_settle_30 (by decide) ?_
        refine ok_isub dX12_settle_31 ?_
        obtain ⟨I7, eI7, h⟩ := blE h
        refine ok_putI2 (ci := 12) (k := 16) dX12_settle_32 flRX12_165 rfl (Or.inl rfl) hZ_b0 (by decide) eI7 ?_
        refine ok_aload_n dX12_settle_35 0 rfl ?_
        refine ok_aload_n dX12_settle_36 0 rfl ?_
        refine ok_getR (ci := 12) (k := 15) dX12_settle_37 flRX12_29 rfl hW hZ_b0 (by decide) ?_
        refine ok_aload_n dX12_settle_40 0 rfl ?_
        refine ok_getI (ci := 12) (k := 16) dX12_settle_41 flRX12_165 rfl hZ_b0 (by decide) ?_
        obtain ⟨hg8, h⟩ := gd h
        refine ok_iald2 (N := (I7 b0 16).toNatClampNeg) dX12_settle_44 hT2 hg8 rfl ?_
        refine ok_iconst (v := 0) dX12_settle_45 (by decide) ?_
        obtain ⟨r9, hr10, h⟩ := bd h
        refine ok_callV (d := ((d + 0) + 2)) (mt := m12_emit) (mc := 0) (ms := 0) (As := [.int (I7 (rO O b0 15) (I7 b0 16).toNatClampNeg), .int 0]) (r := []) dX12_settle_46 mo12_emit mv12_emit lkRX12_171 rfl hZ_b0 (q := (RX12, TX12, 34)) rfl rfl rfl (Nat.le_of_ble_eq_true rfl) (by show _ + 1 ≤ d + _; omega) (Nat.le_refl _) (Nat.le_refl _) (pRt_mono ?_)
        refine k12_emit (d + 0) hW hZ_b0 hr10 ?_
        intro _
        show Ok g _ Qx 49 [(0, .ref b0), (1, .int y1)] [] (Z, r9, L, O)
        refine ok_aload_n dX12_settle_49 0 rfl ?_
        refine ok_getR (ci := 12) (k := 15) dX12_settle_50 flRX12_29 rfl hW hZ_b0 (by decide) ?_
        refine ok_aload_n dX12_settle_53 0 rfl ?_
        refine ok_getI (ci := 12) (k := 16) dX12_settle_54 flRX12_165 rfl hZ_b0 (by decide) ?_
        obtain ⟨hg11, h⟩ := gd h
        refine ok_iald2 (N := (r9 b0 16).toNatClampNeg) dX12_settle_57 hT2 hg11 rfl ?_
        obtain ⟨r12, hr13, h⟩ := bd h
        refine ok_callS (d := ((d + 0) + 2)) (mt := m12_rank) (mc := 0) (ms := 0) (As := [.int (r9 (rO O b0 15) (r9 b0 16).toNatClampNeg)]) (r := []) dX12_settle_58 mo12_rank mv12_rank lkRX12_168 rfl rfl (Nat.le_of_ble_eq_true rfl) (by show _ + 1 ≤ d + _; omega) (Nat.le_refl _) (Nat.le_refl _) (pRt_mono ?_)
        refine k12_rank (d + 0) hW  hr13 ?_
        intro _
        show Ok g _ Qx 61 [(0, .ref b0), (1, .int y1)] [.int r12] (Z, r9, L, O)
        refine ok_bipush (v := 7) dX12_settle_61 (by decide) ?_
        refine ok_icmp_eq (t := 80) dX12_settle_63 (by decide) (fun hc14 => ?_) (fun hc14 => ?_)
        · have h := (if_pos hc14).symm.trans h
          refine ok_aload_n dX12_settle_80 0 rfl ?_
          refine ok_dup dX12_settle_81 rfl ?_
          refine ok_getI (ci := 12) (k := 17) dX12_settle_82 flRX12_175 rfl hZ_b0 (by decide) ?_
          refine ok_iconst (v := 1) dX12_settle_85 (by decide) ?_
          refine ok_isub dX12_settle_86 ?_
          obtain ⟨I15, eI15, h⟩ := blE h
          refine ok_putI2 (ci := 12) (k := 17) dX12_settle_87 flRX12_175 rfl (Or.inl rfl) hZ_b0 (by decide) eI15 ?_
          refine ok_goto (t := 0) dX12_settle_90 (by decide) ?_
          refine ok_sub [0, 1] rfl ?_
          exact ih I15 b0 y1 hZ_b0 h
        · have h := (if_neg hc14).symm.trans h
          refine ok_aload_n dX12_settle_66 0 rfl ?_
          refine ok_getR (ci := 12) (k := 15) dX12_settle_67 flRX12_29 rfl hW hZ_b0 (by decide) ?_
          refine ok_aload_n dX12_settle_70 0 rfl ?_
          refine ok_getI (ci := 12) (k := 16) dX12_settle_71 flRX12_165 rfl hZ_b0 (by decide) ?_
          obtain ⟨hg16, h⟩ := gd h
          refine ok_iald2 (N := (r9 b0 16).toNatClampNeg) dX12_settle_74 hT2 hg16 rfl ?_
          refine ok_bipush (v := 20) dX12_settle_75 (by decide) ?_
          refine ok_icmp_ne (t := 0) dX12_settle_77 (by decide) (fun hc17 => ?_) (fun hc17 => ?_)
          · have h := (if_neg hc17).symm.trans h
            refine ok_sub [0, 1] rfl ?_
            exact ih r9 b0 y1 hZ_b0 h
          · have h := (if_pos hc17).symm.trans h
            refine ok_aload_n dX12_settle_80 0 rfl ?_
            refine ok_dup dX12_settle_81 rfl ?_
            refine ok_getI (ci := 12) (k := 17) dX12_settle_82 flRX12_175 rfl hZ_b0 (by decide) ?_
            refine ok_iconst (v := 1) dX12_settle_85 (by decide) ?_
            refine ok_isub dX12_settle_86 ?_
            obtain ⟨I18, eI18, h⟩ := blE h
            refine ok_putI2 (ci := 12) (k := 17) dX12_settle_87 flRX12_175 rfl (Or.inl rfl) hZ_b0 (by decide) eI18 ?_
            refine ok_goto (t := 0) dX12_settle_90 (by decide) ?_
            refine ok_sub [0, 1] rfl ?_
            exact ih I18 b0 y1 hZ_b0 h
def f12_settle (n : Nat) (I : (Nat → Nat → Int32)) (O : (Nat → Nat → Option Nat)) (a0 : Nat) (x1 : Int32) : Option ((Nat → Nat → Int32)) := f12_settle_c0 n O n I a0 x1
set_option maxHeartbeats 4000000 in
set_option maxRecDepth 20000 in
theorem o12_settle {g : pG} {Qx : Option Value → pW → Prop} {Z : pZ} {I : (Nat → Nat → Int32)} {L : (Nat → Nat → Int64)} {O : (Nat → Nat → Option Nat)} {n : Nat} {a0 : Nat} {x1 : Int32} {res : (Nat → Nat → Int32)} (d : Nat) (hW : WT Z O) (hZ0 : Z[a0]? = some (12, 34)) (h : f12_settle n I O a0 x1 = some res) (hQ : Qx none (Z, res, L, O)) : Ok g (d + 3, RX12, cX12_settle, 2, false, 0, 0, Z.length, pSl Z) Qx 0 [(0, .ref a0), (1, .int x1)] [] (Z, I, L, O) := by
  unfold f12_settle at h
  refine ok_sub [0, 1] rfl ?_
  exact o12_settle_c0 d hW hQ  n I a0 x1 hZ0 h
theorem k12_settle {g : pG} {Q : Option Value → pW → Prop} {Z : pZ} {I : (Nat → Nat → Int32)} {L : (Nat → Nat → Int64)} {O : (Nat → Nat → Option Nat)} {n : Nat} {a0 : Nat} {x1 : Int32} {res : (Nat → Nat → Int32)} (d : Nat) (hW : WT Z O) (hZ0 : Z[a0]? = some (12, 34)) (h : f12_settle n I O a0 x1 = some res) (hQ : Q none (Z, res, L, O)) : CT g (d + 3) m12_settle 0 0 [.ref a0, .int x1] (Z, I, L, O) Q :=
  ct_of_ok (mt := m12_settle) (ini := false) mo12_settle.2.2.2.2 (fun h => by cases h) (Nat.le_of_ble_eq_true rfl) (o12_settle d hW hZ0 h ⟨trivial, hQ, rfl, rfl⟩)
theorem dX12_openAt_0 : decode cX12_openAt 0 = .ok (.aload_n 0, 1) := by decide +kernel
theorem dX12_openAt_1 : decode cX12_openAt 1 = .ok (.getfield 165, 3) := by decide +kernel
theorem dX12_openAt_4 : decode cX12_openAt 4 = .ok (.iconst 1, 1) := by decide +kernel
theorem dX12_openAt_5 : decode cX12_openAt 5 = .ok (.isub, 1) := by decide +kernel
theorem dX12_openAt_6 : decode cX12_openAt 6 = .ok (.istore_n 1, 1) := by decide +kernel
theorem dX12_openAt_7 : decode cX12_openAt 7 = .ok (.iload_n 1, 1) := by decide +kernel
theorem dX12_openAt_8 : decode cX12_openAt 8 = .ok (.ifCond .lt 20, 3) := by decide +kernel
theorem dX12_openAt_11 : decode cX12_openAt 11 = .ok (.aload_n 0, 1) := by decide +kernel
theorem dX12_openAt_12 : decode cX12_openAt 12 = .ok (.getfield 29, 3) := by decide +kernel
theorem dX12_openAt_15 : decode cX12_openAt 15 = .ok (.iload_n 1, 1) := by decide +kernel
theorem dX12_openAt_16 : decode cX12_openAt 16 = .ok (.iaload, 1) := by decide +kernel
theorem dX12_openAt_17 : decode cX12_openAt 17 = .ok (.bipush 40, 2) := by decide +kernel
theorem dX12_openAt_19 : decode cX12_openAt 19 = .ok (.if_icmp .ge 9, 3) := by decide +kernel
theorem dX12_openAt_22 : decode cX12_openAt 22 = .ok (.iinc 1 (-1), 3) := by decide +kernel
theorem dX12_openAt_25 : decode cX12_openAt 25 = .ok (.goto (-18), 3) := by decide +kernel
theorem dX12_openAt_28 : decode cX12_openAt 28 = .ok (.iload_n 1, 1) := by decide +kernel
theorem dX12_openAt_29 : decode cX12_openAt 29 = .ok (.ireturn, 1) := by decide +kernel
def m12_openAt : pMT := (yX12_openAt, cX12_openAt, 2, some .int)
theorem mo12_openAt : mOK m12_openAt 0 := ⟨tb_i 1544 (by decide +kernel), wi_RX12, ⟨wn_RX12.1, wn_RX12.2, by decide +kernel⟩, by decide, plainFor_of_name wp_RX12⟩
theorem mv12_openAt : mV m12_openAt := ⟨tb_i 1543 (by decide +kernel), tb_p 76 (by decide +kernel)⟩
def f12_openAt_c7 (n : Nat) (I : (Nat → Nat → Int32)) (O : (Nat → Nat → Option Nat)) : Nat → Nat → Int32 → Option (Int32)
  | 0, _, _ => none
  | m + 1, b0, y1 => (if y1 < 0 then some (y1) else (if y1 < 0 ∨ 160 ≤ y1.toNatClampNeg then none else (if (40 : Int32) ≤ (I (rO O b0 15) y1.toNatClampNeg) then some (y1) else f12_openAt_c7 n I O m b0 (y1 + (-1)))))
set_option maxHeartbeats 4000000 in
set_option maxRecDepth 20000 in
theorem o12_openAt_c7 {g : pG} {Qx : Option Value → pW → Prop} {Z : pZ} {I : (Nat → Nat → Int32)} {L : (Nat → Nat → Int64)} {O : (Nat → Nat → Option Nat)} {n : Nat} {res : Int32} (d : Nat) (hW : WT Z O) (hQ : Qx (some (.int res)) (Z, I, L, O)) : ∀ (m : Nat) (b0 : Nat) (y1 : Int32), (Z[b0]? = some (12, 34)) → f12_openAt_c7 n I O m b0 y1 = some res → Ok g (d + 2, RX12, cX12_openAt, 2, false, 0, 0, Z.length, pSl Z) Qx 7 [(0, .ref b0), (1, .int y1)] [] (Z, I, L, O) := by
  intro m
  induction m with
  | zero => intro b0 y1 hZ_b0 h; rw [f12_openAt_c7] at h; cases h
  | succ m ih =>
    intro b0 y1 hZ_b0 h
    rw [f12_openAt_c7] at h
    refine ok_iload_n dX12_openAt_7 1 rfl ?_
    refine ok_if_lt (t := 28) dX12_openAt_8 (by decide) (fun hc1 => ?_) (fun hc1 => ?_)
    · have h := (if_pos hc1).symm.trans h
      refine ok_iload_n dX12_openAt_28 1 rfl ?_
      cases h
      exact ok_iret dX12_openAt_29 hQ
    · have h := (if_neg hc1).symm.trans h
      refine ok_aload_n dX12_openAt_11 0 rfl ?_
      have hT2 : Z[(rO O b0 15)]? = some (13, 160) := (wt_f (ci := 12) (k := 15) hW hZ_b0 rfl).2
      refine ok_getR (ci := 12) (k := 15) dX12_openAt_12 flRX12_29 rfl hW hZ_b0 (by decide) ?_
      refine ok_iload_n dX12_openAt_15 1 rfl ?_
      obtain ⟨hg3, h⟩ := gd h
      refine ok_iald2 (N := y1.toNatClampNeg) dX12_openAt_16 hT2 hg3 rfl ?_
      refine ok_bipush (v := 40) dX12_openAt_17 (by decide) ?_
      refine ok_icmp_ge (t := 28) dX12_openAt_19 (by decide) (fun hc4 => ?_) (fun hc4 => ?_)
      · have h := (if_pos hc4).symm.trans h
        refine ok_iload_n dX12_openAt_28 1 rfl ?_
        cases h
        exact ok_iret dX12_openAt_29 hQ
      · have h := (if_neg hc4).symm.trans h
        refine ok_iinc (u := (y1 + (-1))) (l' := [(1, .int (y1 + (-1))), (0, .ref b0)]) dX12_openAt_22 1 rfl rfl (Nat.le_of_ble_eq_true rfl) rfl ?_
        refine ok_goto (t := 7) dX12_openAt_25 (by decide) ?_
        refine ok_sub [1, 0] rfl ?_
        exact ih b0 (y1 + (-1)) hZ_b0 h
def f12_openAt (n : Nat) (I : (Nat → Nat → Int32)) (O : (Nat → Nat → Option Nat)) (a0 : Nat) : Option (Int32) := f12_openAt_c7 n I O n a0 ((I a0 16) - 1)
set_option maxHeartbeats 4000000 in
set_option maxRecDepth 20000 in
theorem o12_openAt {g : pG} {Qx : Option Value → pW → Prop} {Z : pZ} {I : (Nat → Nat → Int32)} {L : (Nat → Nat → Int64)} {O : (Nat → Nat → Option Nat)} {n : Nat} {a0 : Nat} {res : Int32} (d : Nat) (hW : WT Z O) (hZ0 : Z[a0]? = some (12, 34)) (h : f12_openAt n I O a0 = some res) (hQ : Qx (some (.int res)) (Z, I, L, O)) : Ok g (d + 2, RX12, cX12_openAt, 2, false, 0, 0, Z.length, pSl Z) Qx 0 [(0, .ref a0)] [] (Z, I, L, O) := by
  unfold f12_openAt at h
  refine ok_aload_n dX12_openAt_0 0 rfl ?_
  refine ok_getI (ci := 12) (k := 16) dX12_openAt_1 flRX12_165 rfl hZ0 (by decide) ?_
  refine ok_iconst (v := 1) dX12_openAt_4 (by decide) ?_
  refine ok_isub dX12_openAt_5 ?_
  refine ok_istore_n (l' := [(1, .int ((I a0 16) - 1)), (0, .ref a0)]) dX12_openAt_6 rfl (Nat.le_of_ble_eq_true rfl) rfl ?_
  refine ok_sub [1, 0] rfl ?_
  exact o12_openAt_c7 d hW hQ  n a0 ((I a0 16) - 1) hZ0 h
theorem k12_openAt {g : pG} {Q : Option Value → pW → Prop} {Z : pZ} {I : (Nat → Nat → Int32)} {L : (Nat → Nat → Int64)} {O : (Nat → Nat → Option Nat)} {n : Nat} {a0 : Nat} {res : Int32} (d : Nat) (hW : WT Z O) (hZ0 : Z[a0]? = some (12, 34)) (h : f12_openAt n I O a0 = some res) (hQ : Q (some (.int res)) (Z, I, L, O)) : CT g (d + 2) m12_openAt 0 0 [.ref a0] (Z, I, L, O) Q :=
  ct_of_ok (mt := m12_openAt) (ini := false) mo12_openAt.2.2.2.2 (fun h => by cases h) (Nat.le_of_ble_eq_true rfl) (o12_openAt d hW hZ0 h ⟨trivial, hQ, rfl, rfl⟩)
theorem dX12_openNow_0 : decode cX12_openNow 0 = .ok (.aload_n 0, 1) := by decide +kernel
theorem dX12_openNow_1 : decode cX12_openNow 1 = .ok (.invokevirtual 178, 3) := by decide +kernel
theorem dX12_openNow_4 : decode cX12_openNow 4 = .ok (.ifCond .ge 7, 3) := by decide +kernel
theorem dX12_openNow_7 : decode cX12_openNow 7 = .ok (.iconst (-1), 1) := by decide +kernel
theorem dX12_openNow_8 : decode cX12_openNow 8 = .ok (.goto 12, 3) := by decide +kernel
theorem dX12_openNow_11 : decode cX12_openNow 11 = .ok (.aload_n 0, 1) := by decide +kernel
theorem dX12_openNow_12 : decode cX12_openNow 12 = .ok (.getfield 29, 3) := by decide +kernel
theorem dX12_openNow_15 : decode cX12_openNow 15 = .ok (.aload_n 0, 1) := by decide +kernel
theorem dX12_openNow_16 : decode cX12_openNow 16 = .ok (.invokevirtual 178, 3) := by decide +kernel
theorem dX12_openNow_19 : decode cX12_openNow 19 = .ok (.iaload, 1) := by decide +kernel
theorem dX12_openNow_20 : decode cX12_openNow 20 = .ok (.ireturn, 1) := by decide +kernel
def m12_openNow : pMT := (yX12_openNow, cX12_openNow, 1, some .int)
theorem mo12_openNow : mOK m12_openNow 0 := ⟨tb_i 1540 (by decide +kernel), wi_RX12, ⟨wn_RX12.1, wn_RX12.2, by decide +kernel⟩, by decide, plainFor_of_name wp_RX12⟩
theorem mv12_openNow : mV m12_openNow := ⟨tb_i 1539 (by decide +kernel), tb_p 75 (by decide +kernel)⟩
def f12_openNow (n : Nat) (I : (Nat → Nat → Int32)) (O : (Nat → Nat → Option Nat)) (a0 : Nat) : Option (Int32) := (f12_openAt n I O a0).bind fun r1 => (if 0 ≤ r1 then (f12_openAt n I O a0).bind fun r5 => (if r5 < 0 ∨ 160 ≤ r5.toNatClampNeg then none else some ((I (rO O a0 15) r5.toNatClampNeg))) else some (((-1) : Int32)))
set_option maxHeartbeats 4000000 in
set_option maxRecDepth 20000 in
theorem o12_openNow {g : pG} {Qx : Option Value → pW → Prop} {Z : pZ} {I : (Nat → Nat → Int32)} {L : (Nat → Nat → Int64)} {O : (Nat → Nat → Option Nat)} {n : Nat} {a0 : Nat} {res : Int32} (d : Nat) (hW : WT Z O) (hZ0 : Z[a0]? = some (12, 34)) (h : f12_openNow n I O a0 = some res) (hQ : Qx (some (.int res)) (Z, I, L, O)) : Ok g (d + 3, RX12, cX12_openNow, 1, false, 0, 0, Z.length, pSl Z) Qx 0 [(0, .ref a0)] [] (Z, I, L, O) := by
  unfold f12_openNow at h
  refine ok_aload_n dX12_openNow_0 0 rfl ?_
  obtain ⟨r1, hr2, h⟩ := bd h
  refine ok_callV (d := ((d + 0) + 2)) (mt := m12_openAt) (mc := 0) (ms := 0) (As := []) (r := []) dX12_openNow_1 mo12_openAt mv12_openAt lkRX12_178 rfl hZ0 (q := (RX12, TX12, 34)) rfl rfl rfl (Nat.le_of_ble_eq_true rfl) (by show _ + 1 ≤ d + _; omega) (Nat.le_refl _) (Nat.le_refl _) (pRt_mono ?_)
  refine k12_openAt (d + 0) hW hZ0 hr2 ?_
  intro _
  show Ok g _ Qx 4 [(0, .ref a0)] [.int r1] (Z, I, L, O)
  refine ok_if_ge (t := 11) dX12_openNow_4 (by decide) (fun hc3 => ?_) (fun hc3 => ?_)
  · have h := (if_pos hc3).symm.trans h
    refine ok_aload_n dX12_openNow_11 0 rfl ?_
    have hT4 : Z[(rO O a0 15)]? = some (13, 160) := (wt_f (ci := 12) (k := 15) hW hZ0 rfl).2
    refine ok_getR (ci := 12) (k := 15) dX12_openNow_12 flRX12_29 rfl hW hZ0 (by decide) ?_
    refine ok_aload_n dX12_openNow_15 0 rfl ?_
    obtain ⟨r5, hr6, h⟩ := bd h
    refine ok_callV (d := ((d + 0) + 2)) (mt := m12_openAt) (mc := 0) (ms := 0) (As := []) (r := [.ref (rO O a0 15)]) dX12_openNow_16 mo12_openAt mv12_openAt lkRX12_178 rfl hZ0 (q := (RX12, TX12, 34)) rfl rfl rfl (Nat.le_of_ble_eq_true rfl) (by show _ + 1 ≤ d + _; omega) (Nat.le_refl _) (Nat.le_refl _) (pRt_mono ?_)
    refine k12_openAt (d + 0) hW hZ0 hr6 ?_
    intro _
    show Ok g _ Qx 19 [(0, .ref a0)] [.int r5, .ref (rO O a0 15)] (Z, I, L, O)
    obtain ⟨hg7, h⟩ := gd h
    refine ok_iald2 (N := r5.toNatClampNeg) dX12_openNow_19 hT4 hg7 rfl ?_
    cases h
    exact ok_iret dX12_openNow_20 hQ
  · have h := (if_neg hc3).symm.trans h
    refine ok_iconst (v := (-1)) dX12_openNow_7 (by decide) ?_
    refine ok_goto (t := 20) dX12_openNow_8 (by decide) ?_
    cases h
    exact ok_iret dX12_openNow_20 hQ
theorem k12_openNow {g : pG} {Q : Option Value → pW → Prop} {Z : pZ} {I : (Nat → Nat → Int32)} {L : (Nat → Nat → Int64)} {O : (Nat → Nat → Option Nat)} {n : Nat} {a0 : Nat} {res : Int32} (d : Nat) (hW : WT Z O) (hZ0 : Z[a0]? = some (12, 34)) (h : f12_openNow n I O a0 = some res) (hQ : Q (some (.int res)) (Z, I, L, O)) : CT g (d + 3) m12_openNow 0 0 [.ref a0] (Z, I, L, O) Q :=
  ct_of_ok (mt := m12_openNow) (ini := false) mo12_openNow.2.2.2.2 (fun h => by cases h) (Nat.le_of_ble_eq_true rfl) (o12_openNow d hW hZ0 h ⟨trivial, hQ, rfl, rfl⟩)
