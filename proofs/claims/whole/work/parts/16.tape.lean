theorem flRX8_9 : FL RX8 9 8 0 := ⟨(RX8, TX8, 6), rfl, by decide, tb_i 178 (by decide +kernel)⟩
theorem flRX8_15 : FL RX8 15 8 1 := ⟨(RX8, TX8, 6), rfl, by decide, tb_i 179 (by decide +kernel)⟩
theorem flRX8_18 : FL RX8 18 8 2 := ⟨(RX8, TX8, 6), rfl, by decide, tb_i 181 (by decide +kernel)⟩
theorem flRX8_21 : FL RX8 21 8 3 := ⟨(RX8, TX8, 6), rfl, by decide, tb_i 183 (by decide +kernel)⟩
theorem flRX8_24 : FL RX8 24 8 4 := ⟨(RX8, TX8, 6), rfl, by decide, tb_i 185 (by decide +kernel)⟩
theorem flRX8_28 : FL RX8 28 8 5 := ⟨(RX8, TX8, 6), rfl, by decide, tb_i 188 (by decide +kernel)⟩
theorem lkRX8_31 : Cond.methodLink RX8 31 yX8_isLetter ∈ lw_tbl := tb_i 442 (by decide +kernel)
theorem lkRX8_35 : Cond.methodLink RX8 35 yX8_wordEnd ∈ lw_tbl := tb_i 445 (by decide +kernel)
theorem lkRX8_39 : Cond.methodLink RX8 39 yX8_wordNumber ∈ lw_tbl := tb_i 453 (by decide +kernel)
theorem lkRX8_43 : Cond.methodLink RX8 43 yX8_addToken ∈ lw_tbl := tb_i 506 (by decide +kernel)
theorem lkRX8_47 : Cond.methodLink RX8 47 yX8_isDigit ∈ lw_tbl := tb_i 510 (by decide +kernel)
theorem lkRX8_50 : Cond.methodLink RX8 50 yX8_numberEnd ∈ lw_tbl := tb_i 513 (by decide +kernel)
theorem lkRX8_53 : Cond.methodLink RX8 53 yX8_numberOf ∈ lw_tbl := tb_i 517 (by decide +kernel)
theorem lkRX8_56 : Cond.methodLink RX8 56 yX8_byteAt ∈ lw_tbl := tb_i 449 (by decide +kernel)
theorem lkRX8_59 : Cond.methodLink RX8 59 yX8_isSign ∈ lw_tbl := tb_i 524 (by decide +kernel)
theorem lkRX8_62 : Cond.methodLink RX8 62 yJ9_max_7cf53 ∈ lw_tbl := tb_i 527 (by decide +kernel)
theorem lkRX8_67 : Cond.methodLink RX8 67 yJ9_min_7cf53 ∈ lw_tbl := tb_i 521 (by decide +kernel)
theorem lkRX8_72 : Cond.methodLink RX8 72 yJ0_length_8abf5 ∈ lw_tbl := tb_i 458 (by decide +kernel)
theorem lkRX8_78 : Cond.methodLink RX8 78 yJ0_charAt_5068e ∈ lw_tbl := tb_i 468 (by decide +kernel)
theorem dX8_add_0 : decode cX8_add 0 = .ok (.bipush 24, 2) := by decide +kernel
theorem dX8_add_2 : decode cX8_add 2 = .ok (.istore_n 2, 1) := by decide +kernel
theorem dX8_add_3 : decode cX8_add 3 = .ok (.iload_n 2, 1) := by decide +kernel
theorem dX8_add_4 : decode cX8_add 4 = .ok (.ifCond .lt 52, 3) := by decide +kernel
theorem dX8_add_7 : decode cX8_add 7 = .ok (.aload_n 0, 1) := by decide +kernel
theorem dX8_add_8 : decode cX8_add 8 = .ok (.getfield 24, 3) := by decide +kernel
theorem dX8_add_11 : decode cX8_add 11 = .ok (.ifCond .lt 39, 3) := by decide +kernel
theorem dX8_add_14 : decode cX8_add 14 = .ok (.aload_n 0, 1) := by decide +kernel
theorem dX8_add_15 : decode cX8_add 15 = .ok (.getfield 24, 3) := by decide +kernel
theorem dX8_add_18 : decode cX8_add 18 = .ok (.sipush 300, 3) := by decide +kernel
theorem dX8_add_21 : decode cX8_add 21 = .ok (.if_icmp .ge 29, 3) := by decide +kernel
theorem dX8_add_24 : decode cX8_add 24 = .ok (.aload_n 0, 1) := by decide +kernel
theorem dX8_add_25 : decode cX8_add 25 = .ok (.getfield 9, 3) := by decide +kernel
theorem dX8_add_28 : decode cX8_add 28 = .ok (.aload_n 0, 1) := by decide +kernel
theorem dX8_add_29 : decode cX8_add 29 = .ok (.getfield 24, 3) := by decide +kernel
theorem dX8_add_32 : decode cX8_add 32 = .ok (.iload_n 1, 1) := by decide +kernel
theorem dX8_add_33 : decode cX8_add 33 = .ok (.iload_n 2, 1) := by decide +kernel
theorem dX8_add_34 : decode cX8_add 34 = .ok (.ishr, 1) := by decide +kernel
theorem dX8_add_35 : decode cX8_add 35 = .ok (.sipush 255, 3) := by decide +kernel
theorem dX8_add_38 : decode cX8_add 38 = .ok (.iand, 1) := by decide +kernel
theorem dX8_add_39 : decode cX8_add 39 = .ok (.iastore, 1) := by decide +kernel
theorem dX8_add_40 : decode cX8_add 40 = .ok (.aload_n 0, 1) := by decide +kernel
theorem dX8_add_41 : decode cX8_add 41 = .ok (.dup, 1) := by decide +kernel
theorem dX8_add_42 : decode cX8_add 42 = .ok (.getfield 24, 3) := by decide +kernel
theorem dX8_add_45 : decode cX8_add 45 = .ok (.iconst 1, 1) := by decide +kernel
theorem dX8_add_46 : decode cX8_add 46 = .ok (.iadd, 1) := by decide +kernel
theorem dX8_add_47 : decode cX8_add 47 = .ok (.putfield 24, 3) := by decide +kernel
theorem dX8_add_50 : decode cX8_add 50 = .ok (.iinc 2 (-8), 3) := by decide +kernel
theorem dX8_add_53 : decode cX8_add 53 = .ok (.goto (-50), 3) := by decide +kernel
theorem dX8_add_56 : decode cX8_add 56 = .ok (.return_, 1) := by decide +kernel
theorem wi_RX8 : Cond.initialized RX8 ∈ lw_tbl := tb_i 6 (by decide +kernel)
theorem wn_RX8 : RX8 ≠ "java/lang/invoke/MethodHandle" ∧ RX8 ≠ "java/lang/invoke/VarHandle" := ⟨by decide +kernel, by decide +kernel⟩
theorem wp_RX8 : plainName RX8 = true := by decide +kernel
def m8_add : pMT := (yX8_add, cX8_add, 3, none)
theorem mo8_add : mOK m8_add 1 := ⟨tb_i 429 (by decide +kernel), wi_RX8, ⟨wn_RX8.1, wn_RX8.2, by decide +kernel⟩, by decide, plainFor_of_name wp_RX8⟩
theorem mv8_add : mV m8_add := ⟨tb_i 427 (by decide +kernel), tb_i 428 (by decide +kernel)⟩
def f8_add_c3 (n : Nat) (O : (Nat → Nat → Option Nat)) : Nat → (Nat → Nat → Int32) → Nat → Int32 → Int32 → Option ((Nat → Nat → Int32))
  | 0, _, _, _, _ => none
  | m + 1, I, b0, y1, y2 => (if y2 < 0 then some (I) else (if (I b0 4) < 0 then f8_add_c3 n O m I b0 y1 (y2 + (-8)) else (if (300 : Int32) ≤ (I b0 4) then f8_add_c3 n O m I b0 y1 (y2 + (-8)) else (if (I b0 4) < 0 ∨ 300 ≤ (I b0 4).toNatClampNeg then none else bl (sI I (rO O b0 0) (I b0 4).toNatClampNeg ((y1 >>> (y2 &&& 31)) &&& 255)) fun I6 => bl (sI I6 b0 4 ((I6 b0 4) + 1)) fun I7 => f8_add_c3 n O m I7 b0 y1 (y2 + (-8))))))
set_option maxHeartbeats 4000000 in
set_option maxRecDepth 20000 in
theorem o8_add_c3 {g : pG} {Qx : Option Value → pW → Prop} {Z : pZ} {L : (Nat → Nat → Int64)} {O : (Nat → Nat → Option Nat)} {n : Nat} {res : (Nat → Nat → Int32)} (d : Nat) (hW : WT Z O) (hQ : Qx none (Z, res, L, O)) : ∀ (m : Nat) (I : (Nat → Nat → Int32)) (b0 : Nat) (y1 : Int32) (y2 : Int32), (Z[b0]? = some (8, 6)) → f8_add_c3 n O m I b0 y1 y2 = some res → Ok g (d + 2, RX8, cX8_add, 3, false, 0, 0, Z.length, pSl Z) Qx 3 [(0, .ref b0), (1, .int y1), (2, .int y2)] [] (Z, I, L, O) := by
  intro m
  induction m with
  | zero => intro I b0 y1 y2 hZ_b0 h; rw [f8_add_c3] at h; cases h
  | succ m ih =>
    intro I b0 y1 y2 hZ_b0 h
    rw [f8_add_c3] at h
    refine ok_iload_n dX8_add_3 2 rfl ?_
    refine ok_if_lt (t := 56) dX8_add_4 (by decide) (fun hc1 => ?_) (fun hc1 => ?_)
    · have h := (if_pos hc1).symm.trans h
      cases h
      exact ok_vret dX8_add_56 hQ
    · have h := (if_neg hc1).symm.trans h
      refine ok_aload_n dX8_add_7 0 rfl ?_
      refine ok_getI (ci := 8) (k := 4) dX8_add_8 flRX8_24 rfl hZ_b0 (by decide) ?_
      refine ok_if_lt (t := 50) dX8_add_11 (by decide) (fun hc2 => ?_) (fun hc2 => ?_)
      · have h := (if_pos hc2).symm.trans h
        refine ok_iinc (u := (y2 + (-8))) (l' := [(2, .int (y2 + (-8))), (0, .ref b0), (1, .int y1)]) dX8_add_50 2 rfl rfl (Nat.le_of_ble_eq_true rfl) rfl ?_
        refine ok_goto (t := 3) dX8_add_53 (by decide) ?_
        refine ok_sub [1, 2, 0] rfl ?_
        exact ih I b0 y1 (y2 + (-8)) hZ_b0 h
      · have h := (if_neg hc2).symm.trans h
        refine ok_aload_n dX8_add_14 0 rfl ?_
        refine ok_getI (ci := 8) (k := 4) dX8_add_15 flRX8_24 rfl hZ_b0 (by decide) ?_
        refine ok_sipush (v := 300) dX8_add_18 (by decide) ?_
        refine ok_icmp_ge (t := 50) dX8_add_21 (by decide) (fun hc3 => ?_) (fun hc3 => ?_)
        · have h := (if_pos hc3).symm.trans h
          refine ok_iinc (u := (y2 + (-8))) (l' := [(2, .int (y2 + (-8))), (0, .ref b0), (1, .int y1)]) dX8_add_50 2 rfl rfl (Nat.le_of_ble_eq_true rfl) rfl ?_
          refine ok_goto (t := 3) dX8_add_53 (by decide) ?_
          refine ok_sub [1, 2, 0] rfl ?_
          exact ih I b0 y1 (y2 + (-8)) hZ_b0 h
        · have h := (if_neg hc3).symm.trans h
          refine ok_aload_n dX8_add_24 0 rfl ?_
          have hT4 : Z[(rO O b0 0)]? = some (13, 300) := (wt_f (ci := 8) (k := 0) hW hZ_b0 rfl).2
          refine ok_getR (ci := 8) (k := 0) dX8_add_25 flRX8_9 rfl hW hZ_b0 (by decide) ?_
          refine ok_aload_n dX8_add_28 0 rfl ?_
          refine ok_getI (ci := 8) (k := 4) dX8_add_29 flRX8_24 rfl hZ_b0 (by decide) ?_
          refine ok_iload_n dX8_add_32 1 rfl ?_
          refine ok_iload_n dX8_add_33 2 rfl ?_
          refine ok_ishr dX8_add_34 ?_
          refine ok_sipush (v := 255) dX8_add_35 (by decide) ?_
          refine ok_iand dX8_add_38 ?_
          obtain ⟨hg5, h⟩ := gd h
          obtain ⟨I6, eI6, h⟩ := blE h
          refine ok_iast3 dX8_add_39 hT4 hg5 rfl eI6 ?_
          refine ok_aload_n dX8_add_40 0 rfl ?_
          refine ok_dup dX8_add_41 rfl ?_
          refine ok_getI (ci := 8) (k := 4) dX8_add_42 flRX8_24 rfl hZ_b0 (by decide) ?_
          refine ok_iconst (v := 1) dX8_add_45 (by decide) ?_
          refine ok_iadd dX8_add_46 ?_
          obtain ⟨I7, eI7, h⟩ := blE h
          refine ok_putI2 (ci := 8) (k := 4) dX8_add_47 flRX8_24 rfl (Or.inl rfl) hZ_b0 (by decide) eI7 ?_
          refine ok_iinc (u := (y2 + (-8))) (l' := [(2, .int (y2 + (-8))), (0, .ref b0), (1, .int y1)]) dX8_add_50 2 rfl rfl (Nat.le_of_ble_eq_true rfl) rfl ?_
          refine ok_goto (t := 3) dX8_add_53 (by decide) ?_
          refine ok_sub [1, 2, 0] rfl ?_
          exact ih I7 b0 y1 (y2 + (-8)) hZ_b0 h
def f8_add (n : Nat) (I : (Nat → Nat → Int32)) (O : (Nat → Nat → Option Nat)) (a0 : Nat) (x1 : Int32) : Option ((Nat → Nat → Int32)) := f8_add_c3 n O n I a0 x1 (24 : Int32)
set_option maxHeartbeats 4000000 in
set_option maxRecDepth 20000 in
theorem o8_add {g : pG} {Qx : Option Value → pW → Prop} {Z : pZ} {I : (Nat → Nat → Int32)} {L : (Nat → Nat → Int64)} {O : (Nat → Nat → Option Nat)} {n : Nat} {a0 : Nat} {x1 : Int32} {res : (Nat → Nat → Int32)} (d : Nat) (hW : WT Z O) (hZ0 : Z[a0]? = some (8, 6)) (h : f8_add n I O a0 x1 = some res) (hQ : Qx none (Z, res, L, O)) : Ok g (d + 2, RX8, cX8_add, 3, false, 0, 0, Z.length, pSl Z) Qx 0 [(0, .ref a0), (1, .int x1)] [] (Z, I, L, O) := by
  unfold f8_add at h
  refine ok_bipush (v := 24) dX8_add_0 (by decide) ?_
  refine ok_istore_n (l' := [(2, .int 24), (0, .ref a0), (1, .int x1)]) dX8_add_2 rfl (Nat.le_of_ble_eq_true rfl) rfl ?_
  refine ok_sub [1, 2, 0] rfl ?_
  exact o8_add_c3 d hW hQ  n I a0 x1 (24 : Int32) hZ0 h
theorem k8_add {g : pG} {Q : Option Value → pW → Prop} {Z : pZ} {I : (Nat → Nat → Int32)} {L : (Nat → Nat → Int64)} {O : (Nat → Nat → Option Nat)} {n : Nat} {a0 : Nat} {x1 : Int32} {res : (Nat → Nat → Int32)} (d : Nat) (hW : WT Z O) (hZ0 : Z[a0]? = some (8, 6)) (h : f8_add n I O a0 x1 = some res) (hQ : Q none (Z, res, L, O)) : CT g (d + 2) m8_add 0 0 [.ref a0, .int x1] (Z, I, L, O) Q :=
  ct_of_ok (mt := m8_add) (ini := false) mo8_add.2.2.2.2 (fun h => by cases h) (Nat.le_of_ble_eq_true rfl) (o8_add d hW hZ0 h ⟨trivial, hQ, rfl, rfl⟩)
theorem dX8_addToken_0 : decode cX8_addToken 0 = .ok (.aload_n 0, 1) := by decide +kernel
theorem dX8_addToken_1 : decode cX8_addToken 1 = .ok (.getfield 28, 3) := by decide +kernel
theorem dX8_addToken_4 : decode cX8_addToken 4 = .ok (.ifCond .lt 53, 3) := by decide +kernel
theorem dX8_addToken_7 : decode cX8_addToken 7 = .ok (.aload_n 0, 1) := by decide +kernel
theorem dX8_addToken_8 : decode cX8_addToken 8 = .ok (.getfield 28, 3) := by decide +kernel
theorem dX8_addToken_11 : decode cX8_addToken 11 = .ok (.sipush 300, 3) := by decide +kernel
theorem dX8_addToken_14 : decode cX8_addToken 14 = .ok (.if_icmp .gt 43, 3) := by decide +kernel
theorem dX8_addToken_17 : decode cX8_addToken 17 = .ok (.aload_n 0, 1) := by decide +kernel
theorem dX8_addToken_18 : decode cX8_addToken 18 = .ok (.getfield 15, 3) := by decide +kernel
theorem dX8_addToken_21 : decode cX8_addToken 21 = .ok (.aload_n 0, 1) := by decide +kernel
theorem dX8_addToken_22 : decode cX8_addToken 22 = .ok (.getfield 28, 3) := by decide +kernel
theorem dX8_addToken_25 : decode cX8_addToken 25 = .ok (.iload_n 1, 1) := by decide +kernel
theorem dX8_addToken_26 : decode cX8_addToken 26 = .ok (.iastore, 1) := by decide +kernel
theorem dX8_addToken_27 : decode cX8_addToken 27 = .ok (.aload_n 0, 1) := by decide +kernel
theorem dX8_addToken_28 : decode cX8_addToken 28 = .ok (.getfield 18, 3) := by decide +kernel
theorem dX8_addToken_31 : decode cX8_addToken 31 = .ok (.aload_n 0, 1) := by decide +kernel
theorem dX8_addToken_32 : decode cX8_addToken 32 = .ok (.getfield 28, 3) := by decide +kernel
theorem dX8_addToken_35 : decode cX8_addToken 35 = .ok (.iload_n 2, 1) := by decide +kernel
theorem dX8_addToken_36 : decode cX8_addToken 36 = .ok (.iastore, 1) := by decide +kernel
theorem dX8_addToken_37 : decode cX8_addToken 37 = .ok (.aload_n 0, 1) := by decide +kernel
theorem dX8_addToken_38 : decode cX8_addToken 38 = .ok (.getfield 21, 3) := by decide +kernel
theorem dX8_addToken_41 : decode cX8_addToken 41 = .ok (.aload_n 0, 1) := by decide +kernel
theorem dX8_addToken_42 : decode cX8_addToken 42 = .ok (.getfield 28, 3) := by decide +kernel
theorem dX8_addToken_45 : decode cX8_addToken 45 = .ok (.iload_n 3, 1) := by decide +kernel
theorem dX8_addToken_46 : decode cX8_addToken 46 = .ok (.iastore, 1) := by decide +kernel
theorem dX8_addToken_47 : decode cX8_addToken 47 = .ok (.aload_n 0, 1) := by decide +kernel
theorem dX8_addToken_48 : decode cX8_addToken 48 = .ok (.dup, 1) := by decide +kernel
theorem dX8_addToken_49 : decode cX8_addToken 49 = .ok (.getfield 28, 3) := by decide +kernel
theorem dX8_addToken_52 : decode cX8_addToken 52 = .ok (.iconst 1, 1) := by decide +kernel
theorem dX8_addToken_53 : decode cX8_addToken 53 = .ok (.iadd, 1) := by decide +kernel
theorem dX8_addToken_54 : decode cX8_addToken 54 = .ok (.putfield 28, 3) := by decide +kernel
theorem dX8_addToken_57 : decode cX8_addToken 57 = .ok (.return_, 1) := by decide +kernel
def m8_addToken : pMT := (yX8_addToken, cX8_addToken, 4, none)
theorem mo8_addToken : mOK m8_addToken 3 := ⟨tb_i 509 (by decide +kernel), wi_RX8, ⟨wn_RX8.1, wn_RX8.2, by decide +kernel⟩, by decide, plainFor_of_name wp_RX8⟩
theorem mv8_addToken : mV m8_addToken := ⟨tb_i 508 (by decide +kernel), tb_p 3 (by decide +kernel)⟩
def f8_addToken (I : (Nat → Nat → Int32)) (O : (Nat → Nat → Option Nat)) (a0 : Nat) (x1 : Int32) (x2 : Int32) (x3 : Int32) : Option ((Nat → Nat → Int32)) := (if (I a0 5) < 0 then some (I) else (if (300 : Int32) < (I a0 5) then some (I) else (if (I a0 5) < 0 ∨ 301 ≤ (I a0 5).toNatClampNeg then none else bl (sI I (rO O a0 1) (I a0 5).toNatClampNeg x1) fun I5 => (if (I5 a0 5) < 0 ∨ 301 ≤ (I5 a0 5).toNatClampNeg then none else bl (sI I5 (rO O a0 2) (I5 a0 5).toNatClampNeg x2) fun I8 => (if (I8 a0 5) < 0 ∨ 301 ≤ (I8 a0 5).toNatClampNeg then none else bl (sI I8 (rO O a0 3) (I8 a0 5).toNatClampNeg x3) fun I11 => bl (sI I11 a0 5 ((I11 a0 5) + 1)) fun I12 => some (I12))))))
set_option maxHeartbeats 4000000 in
set_option maxRecDepth 20000 in
theorem o8_addToken {g : pG} {Qx : Option Value → pW → Prop} {Z : pZ} {I : (Nat → Nat → Int32)} {L : (Nat → Nat → Int64)} {O : (Nat → Nat → Option Nat)} {a0 : Nat} {x1 : Int32} {x2 : Int32} {x3 : Int32} {res : (Nat → Nat → Int32)} (d : Nat) (hW : WT Z O) (hZ0 : Z[a0]? = some (8, 6)) (h : f8_addToken I O a0 x1 x2 x3 = some res) (hQ : Qx none (Z, res, L, O)) : Ok g (d + 2, RX8, cX8_addToken, 4, false, 0, 0, Z.length, pSl Z) Qx 0 [(0, .ref a0), (1, .int x1), (2, .int x2), (3, .int x3)] [] (Z, I, L, O) := by
  unfold f8_addToken at h
  refine ok_aload_n dX8_addToken_0 0 rfl ?_
  refine ok_getI (ci := 8) (k := 5) dX8_addToken_1 flRX8_28 rfl hZ0 (by decide) ?_
  refine ok_if_lt (t := 57) dX8_addToken_4 (by decide) (fun hc1 => ?_) (fun hc1 => ?_)
  · have h := (if_pos hc1).symm.trans h
    cases h
    exact ok_vret dX8_addToken_57 hQ
  · have h := (if_neg hc1).symm.trans h
    refine ok_aload_n dX8_addToken_7 0 rfl ?_
    refine ok_getI (ci := 8) (k := 5) dX8_addToken_8 flRX8_28 rfl hZ0 (by decide) ?_
    refine ok_sipush (v := 300) dX8_addToken_11 (by decide) ?_
    refine ok_icmp_gt (t := 57) dX8_addToken_14 (by decide) (fun hc2 => ?_) (fun hc2 => ?_)
    · have h := (if_pos hc2).symm.trans h
      cases h
      exact ok_vret dX8_addToken_57 hQ
    · have h := (if_neg hc2).symm.trans h
      refine ok_aload_n dX8_addToken_17 0 rfl ?_
      have hT3 : Z[(rO O a0 1)]? = some (13, 301) := (wt_f (ci := 8) (k := 1) hW hZ0 rfl).2
      refine ok_getR (ci := 8) (k := 1) dX8_addToken_18 flRX8_15 rfl hW hZ0 (by decide) ?_
      refine ok_aload_n dX8_addToken_21 0 rfl ?_
      refine ok_getI (ci := 8) (k := 5) dX8_addToken_22 flRX8_28 rfl hZ0 (by decide) ?_
      refine ok_iload_n dX8_addToken_25 1 rfl ?_
      obtain ⟨hg4, h⟩ := gd h
      obtain ⟨I5, eI5, h⟩ := blE h
      refine ok_iast3 dX8_addToken_26 hT3 hg4 rfl eI5 ?_
      refine ok_aload_n dX8_addToken_27 0 rfl ?_
      have hT6 : Z[(rO O a0 2)]? = some (13, 301) := (wt_f (ci := 8) (k := 2) hW hZ0 rfl).2
      refine ok_getR (ci := 8) (k := 2) dX8_addToken_28 flRX8_18 rfl hW hZ0 (by decide) ?_
      refine ok_aload_n dX8_addToken_31 0 rfl ?_
      refine ok_getI (ci := 8) (k := 5) dX8_addToken_32 flRX8_28 rfl hZ0 (by decide) ?_
      refine ok_iload_n dX8_addToken_35 2 rfl ?_
      obtain ⟨hg7, h⟩ := gd h
      obtain ⟨I8, eI8, h⟩ := blE h
      refine ok_iast3 dX8_addToken_36 hT6 hg7 rfl eI8 ?_
      refine ok_aload_n dX8_addToken_37 0 rfl ?_
      have hT9 : Z[(rO O a0 3)]? = some (13, 301) := (wt_f (ci := 8) (k := 3) hW hZ0 rfl).2
      refine ok_getR (ci := 8) (k := 3) dX8_addToken_38 flRX8_21 rfl hW hZ0 (by decide) ?_
      refine ok_aload_n dX8_addToken_41 0 rfl ?_
      refine ok_getI (ci := 8) (k := 5) dX8_addToken_42 flRX8_28 rfl hZ0 (by decide) ?_
      refine ok_iload_n dX8_addToken_45 3 rfl ?_
      obtain ⟨hg10, h⟩ := gd h
      obtain ⟨I11, eI11, h⟩ := blE h
      refine ok_iast3 dX8_addToken_46 hT9 hg10 rfl eI11 ?_
      refine ok_aload_n dX8_addToken_47 0 rfl ?_
      refine ok_dup dX8_addToken_48 rfl ?_
      refine ok_getI (ci := 8) (k := 5) dX8_addToken_49 flRX8_28 rfl hZ0 (by decide) ?_
      refine ok_iconst (v := 1) dX8_addToken_52 (by decide) ?_
      refine ok_iadd dX8_addToken_53 ?_
      obtain ⟨I12, eI12, h⟩ := blE h
      refine ok_putI2 (ci := 8) (k := 5) dX8_addToken_54 flRX8_28 rfl (Or.inl rfl) hZ0 (by decide) eI12 ?_
      cases h
      exact ok_vret dX8_addToken_57 hQ
theorem k8_addToken {g : pG} {Q : Option Value → pW → Prop} {Z : pZ} {I : (Nat → Nat → Int32)} {L : (Nat → Nat → Int64)} {O : (Nat → Nat → Option Nat)} {a0 : Nat} {x1 : Int32} {x2 : Int32} {x3 : Int32} {res : (Nat → Nat → Int32)} (d : Nat) (hW : WT Z O) (hZ0 : Z[a0]? = some (8, 6)) (h : f8_addToken I O a0 x1 x2 x3 = some res) (hQ : Q none (Z, res, L, O)) : CT g (d + 2) m8_addToken 0 0 [.ref a0, .int x1, .int x2, .int x3] (Z, I, L, O) Q :=
  ct_of_ok (mt := m8_addToken) (ini := false) mo8_addToken.2.2.2.2 (fun h => by cases h) (Nat.le_of_ble_eq_true rfl) (o8_addToken d hW hZ0 h ⟨trivial, hQ, rfl, rfl⟩)
theorem dX8_byteAt_0 : decode cX8_byteAt 0 = .ok (.iload_n 1, 1) := by decide +kernel
theorem dX8_byteAt_1 : decode cX8_byteAt 1 = .ok (.ifCond .lt 27, 3) := by decide +kernel
theorem dX8_byteAt_4 : decode cX8_byteAt 4 = .ok (.iload_n 1, 1) := by decide +kernel
theorem dX8_byteAt_5 : decode cX8_byteAt 5 = .ok (.aload_n 0, 1) := by decide +kernel
theorem dX8_byteAt_6 : decode cX8_byteAt 6 = .ok (.getfield 24, 3) := by decide +kernel
theorem dX8_byteAt_9 : decode cX8_byteAt 9 = .ok (.if_icmp .ge 19, 3) := by decide +kernel
theorem dX8_byteAt_12 : decode cX8_byteAt 12 = .ok (.iload_n 1, 1) := by decide +kernel
theorem dX8_byteAt_13 : decode cX8_byteAt 13 = .ok (.sipush 300, 3) := by decide +kernel
theorem dX8_byteAt_16 : decode cX8_byteAt 16 = .ok (.if_icmp .ge 12, 3) := by decide +kernel
theorem dX8_byteAt_19 : decode cX8_byteAt 19 = .ok (.aload_n 0, 1) := by decide +kernel
theorem dX8_byteAt_20 : decode cX8_byteAt 20 = .ok (.getfield 9, 3) := by decide +kernel
theorem dX8_byteAt_23 : decode cX8_byteAt 23 = .ok (.iload_n 1, 1) := by decide +kernel
theorem dX8_byteAt_24 : decode cX8_byteAt 24 = .ok (.iaload, 1) := by decide +kernel
theorem dX8_byteAt_25 : decode cX8_byteAt 25 = .ok (.goto 4, 3) := by decide +kernel
theorem dX8_byteAt_28 : decode cX8_byteAt 28 = .ok (.iconst 0, 1) := by decide +kernel
theorem dX8_byteAt_29 : decode cX8_byteAt 29 = .ok (.ireturn, 1) := by decide +kernel
def m8_byteAt : pMT := (yX8_byteAt, cX8_byteAt, 2, some .int)
theorem mo8_byteAt : mOK m8_byteAt 1 := ⟨tb_i 452 (by decide +kernel), wi_RX8, ⟨wn_RX8.1, wn_RX8.2, by decide +kernel⟩, by decide, plainFor_of_name wp_RX8⟩
theorem mv8_byteAt : mV m8_byteAt := ⟨tb_i 451 (by decide +kernel), tb_p 1 (by decide +kernel)⟩
def f8_byteAt (I : (Nat → Nat → Int32)) (O : (Nat → Nat → Option Nat)) (a0 : Nat) (x1 : Int32) : Option (Int32) := (if x1 < 0 then some ((0 : Int32)) else (if (I a0 4) ≤ x1 then some ((0 : Int32)) else (if (300 : Int32) ≤ x1 then some ((0 : Int32)) else (if x1 < 0 ∨ 300 ≤ x1.toNatClampNeg then none else some ((I (rO O a0 0) x1.toNatClampNeg))))))
set_option maxHeartbeats 4000000 in
set_option maxRecDepth 20000 in
theorem o8_byteAt {g : pG} {Qx : Option Value → pW → Prop} {Z : pZ} {I : (Nat → Nat → Int32)} {L : (Nat → Nat → Int64)} {O : (Nat → Nat → Option Nat)} {a0 : Nat} {x1 : Int32} {res : Int32} (d : Nat) (hW : WT Z O) (hZ0 : Z[a0]? = some (8, 6)) (h : f8_byteAt I O a0 x1 = some res) (hQ : Qx (some (.int res)) (Z, I, L, O)) : Ok g (d + 2, RX8, cX8_byteAt, 2, false, 0, 0, Z.length, pSl Z) Qx 0 [(0, .ref a0), (1, .int x1)] [] (Z, I, L, O) := by
  unfold f8_byteAt at h
  refine ok_iload_n dX8_byteAt_0 1 rfl ?_
  refine ok_if_lt (t := 28) dX8_byteAt_1 (by decide) (fun hc1 => ?_) (fun hc1 => ?_)
  · have h := (if_pos hc1).symm.trans h
    refine ok_iconst (v := 0) dX8_byteAt_28 (by decide) ?_
    cases h
    exact ok_iret dX8_byteAt_29 hQ
  · have h := (if_neg hc1).symm.trans h
    refine ok_iload_n dX8_byteAt_4 1 rfl ?_
    refine ok_aload_n dX8_byteAt_5 0 rfl ?_
    refine ok_getI (ci := 8) (k := 4) dX8_byteAt_6 flRX8_24 rfl hZ0 (by decide) ?_
    refine ok_icmp_ge (t := 28) dX8_byteAt_9 (by decide) (fun hc2 => ?_) (fun hc2 => ?_)
    · have h := (if_pos hc2).symm.trans h
      refine ok_iconst (v := 0) dX8_byteAt_28 (by decide) ?_
      cases h
      exact ok_iret dX8_byteAt_29 hQ
    · have h := (if_neg hc2).symm.trans h
      refine ok_iload_n dX8_byteAt_12 1 rfl ?_
      refine ok_sipush (v := 300) dX8_byteAt_13 (by decide) ?_
      refine ok_icmp_ge (t := 28) dX8_byteAt_16 (by decide) (fun hc3 => ?_) (fun hc3 => ?_)
      · have h := (if_pos hc3).symm.trans h
        refine ok_iconst (v := 0) dX8_byteAt_28 (by decide) ?_
        cases h
        exact ok_iret dX8_byteAt_29 hQ
      · have h := (if_neg hc3).symm.trans h
        refine ok_aload_n dX8_byteAt_19 0 rfl ?_
        have hT4 : Z[(rO O a0 0)]? = some (13, 300) := (wt_f (ci := 8) (k := 0) hW hZ0 rfl).2
        refine ok_getR (ci := 8) (k := 0) dX8_byteAt_20 flRX8_9 rfl hW hZ0 (by decide) ?_
        refine ok_iload_n dX8_byteAt_23 1 rfl ?_
        obtain ⟨hg5, h⟩ := gd h
        refine ok_iald2 (N := x1.toNatClampNeg) dX8_byteAt_24 hT4 hg5 rfl ?_
        refine ok_goto (t := 29) dX8_byteAt_25 (by decide) ?_
        cases h
        exact ok_iret dX8_byteAt_29 hQ
theorem k8_byteAt {g : pG} {Q : Option Value → pW → Prop} {Z : pZ} {I : (Nat → Nat → Int32)} {L : (Nat → Nat → Int64)} {O : (Nat → Nat → Option Nat)} {a0 : Nat} {x1 : Int32} {res : Int32} (d : Nat) (hW : WT Z O) (hZ0 : Z[a0]? = some (8, 6)) (h : f8_byteAt I O a0 x1 = some res) (hQ : Q (some (.int res)) (Z, I, L, O)) : CT g (d + 2) m8_byteAt 0 0 [.ref a0, .int x1] (Z, I, L, O) Q :=
  ct_of_ok (mt := m8_byteAt) (ini := false) mo8_byteAt.2.2.2.2 (fun h => by cases h) (Nat.le_of_ble_eq_true rfl) (o8_byteAt d hW hZ0 h ⟨trivial, hQ, rfl, rfl⟩)
theorem dX8_isDigit_0 : decode cX8_isDigit 0 = .ok (.iload_n 0, 1) := by decide +kernel
theorem dX8_isDigit_1 : decode cX8_isDigit 1 = .ok (.bipush 48, 2) := by decide +kernel
theorem dX8_isDigit_3 : decode cX8_isDigit 3 = .ok (.if_icmp .lt 13, 3) := by decide +kernel
theorem dX8_isDigit_6 : decode cX8_isDigit 6 = .ok (.iload_n 0, 1) := by decide +kernel
theorem dX8_isDigit_7 : decode cX8_isDigit 7 = .ok (.bipush 57, 2) := by decide +kernel
theorem dX8_isDigit_9 : decode cX8_isDigit 9 = .ok (.if_icmp .gt 7, 3) := by decide +kernel
theorem dX8_isDigit_12 : decode cX8_isDigit 12 = .ok (.iconst 1, 1) := by decide +kernel
theorem dX8_isDigit_13 : decode cX8_isDigit 13 = .ok (.goto 4, 3) := by decide +kernel
theorem dX8_isDigit_16 : decode cX8_isDigit 16 = .ok (.iconst 0, 1) := by decide +kernel
theorem dX8_isDigit_17 : decode cX8_isDigit 17 = .ok (.ireturn, 1) := by decide +kernel
def m8_isDigit : pMT := (yX8_isDigit, cX8_isDigit, 1, some .boolean)
theorem mo8_isDigit : mOK m8_isDigit 1 := ⟨tb_i 512 (by decide +kernel), wi_RX8, ⟨wn_RX8.1, wn_RX8.2, by decide +kernel⟩, by decide, plainFor_of_name wp_RX8⟩
theorem mv8_isDigit : mS m8_isDigit := (tb_i 511 (by decide +kernel) : Cond.static yX8_isDigit ∈ lw_tbl)
def f8_isDigit (x0 : Int32) : Option (Int32) := (if x0 < (48 : Int32) then some ((0 : Int32)) else (if (57 : Int32) < x0 then some ((0 : Int32)) else some ((1 : Int32))))
set_option maxHeartbeats 4000000 in
set_option maxRecDepth 20000 in
theorem o8_isDigit {g : pG} {Qx : Option Value → pW → Prop} {Z : pZ} {I : (Nat → Nat → Int32)} {L : (Nat → Nat → Int64)} {O : (Nat → Nat → Option Nat)} {x0 : Int32} {res : Int32} (d : Nat) (hW : WT Z O) (h : f8_isDigit x0 = some res) (hQ : (res = 0 ∨ res = 1) → Qx (some (.int res)) (Z, I, L, O)) : Ok g (d + 2, RX8, cX8_isDigit, 1, false, 0, 0, Z.length, pSl Z) Qx 0 [(0, .int x0)] [] (Z, I, L, O) := by
  unfold f8_isDigit at h
  refine ok_iload_n dX8_isDigit_0 0 rfl ?_
  refine ok_bipush (v := 48) dX8_isDigit_1 (by decide) ?_
  refine ok_icmp_lt (t := 16) dX8_isDigit_3 (by decide) (fun hc1 => ?_) (fun hc1 => ?_)
  · have h := (if_pos hc1).symm.trans h
    refine ok_iconst (v := 0) dX8_isDigit_16 (by decide) ?_
    cases h
    exact ok_iret dX8_isDigit_17 (hQ (Or.inl rfl))
  · have h := (if_neg hc1).symm.trans h
    refine ok_iload_n dX8_isDigit_6 0 rfl ?_
    refine ok_bipush (v := 57) dX8_isDigit_7 (by decide) ?_
    refine ok_icmp_gt (t := 16) dX8_isDigit_9 (by decide) (fun hc2 => ?_) (fun hc2 => ?_)
    · have h := (if_pos hc2).symm.trans h
      refine ok_iconst (v := 0) dX8_isDigit_16 (by decide) ?_
      cases h
      exact ok_iret dX8_isDigit_17 (hQ (Or.inl rfl))
    · have h := (if_neg hc2).symm.trans h
      refine ok_iconst (v := 1) dX8_isDigit_12 (by decide) ?_
      refine ok_goto (t := 17) dX8_isDigit_13 (by decide) ?_
      cases h
      exact ok_iret dX8_isDigit_17 (hQ (Or.inr rfl))
theorem k8_isDigit {g : pG} {Q : Option Value → pW → Prop} {Z : pZ} {I : (Nat → Nat → Int32)} {L : (Nat → Nat → Int64)} {O : (Nat → Nat → Option Nat)} {x0 : Int32} {res : Int32} (d : Nat) (hW : WT Z O) (h : f8_isDigit x0 = some res) (hQ : Q (some (.int res)) (Z, I, L, O)) : CT g (d + 2) m8_isDigit 0 0 [.int x0] (Z, I, L, O) Q :=
  ct_of_ok (mt := m8_isDigit) (ini := false) mo8_isDigit.2.2.2.2 (fun h => by cases h) (Nat.le_of_ble_eq_true rfl) (o8_isDigit d hW  h (fun hb => ⟨hb, hQ, rfl, rfl⟩))
theorem dX8_isLetter_0 : decode cX8_isLetter 0 = .ok (.iload_n 0, 1) := by decide +kernel
theorem dX8_isLetter_1 : decode cX8_isLetter 1 = .ok (.bipush 97, 2) := by decide +kernel
theorem dX8_isLetter_3 : decode cX8_isLetter 3 = .ok (.if_icmp .lt 9, 3) := by decide +kernel
theorem dX8_isLetter_6 : decode cX8_isLetter 6 = .ok (.iload_n 0, 1) := by decide +kernel
theorem dX8_isLetter_7 : decode cX8_isLetter 7 = .ok (.bipush 122, 2) := by decide +kernel
theorem dX8_isLetter_9 : decode cX8_isLetter 9 = .ok (.if_icmp .le 15, 3) := by decide +kernel
theorem dX8_isLetter_12 : decode cX8_isLetter 12 = .ok (.iload_n 0, 1) := by decide +kernel
theorem dX8_isLetter_13 : decode cX8_isLetter 13 = .ok (.bipush 65, 2) := by decide +kernel
theorem dX8_isLetter_15 : decode cX8_isLetter 15 = .ok (.if_icmp .lt 13, 3) := by decide +kernel
theorem dX8_isLetter_18 : decode cX8_isLetter 18 = .ok (.iload_n 0, 1) := by decide +kernel
theorem dX8_isLetter_19 : decode cX8_isLetter 19 = .ok (.bipush 90, 2) := by decide +kernel
theorem dX8_isLetter_21 : decode cX8_isLetter 21 = .ok (.if_icmp .gt 7, 3) := by decide +kernel
theorem dX8_isLetter_24 : decode cX8_isLetter 24 = .ok (.iconst 1, 1) := by decide +kernel
theorem dX8_isLetter_25 : decode cX8_isLetter 25 = .ok (.goto 4, 3) := by decide +kernel
theorem dX8_isLetter_28 : decode cX8_isLetter 28 = .ok (.iconst 0, 1) := by decide +kernel
theorem dX8_isLetter_29 : decode cX8_isLetter 29 = .ok (.ireturn, 1) := by decide +kernel
def m8_isLetter : pMT := (yX8_isLetter, cX8_isLetter, 1, some .boolean)
theorem mo8_isLetter : mOK m8_isLetter 1 := ⟨tb_i 444 (by decide +kernel), wi_RX8, ⟨wn_RX8.1, wn_RX8.2, by decide +kernel⟩, by decide, plainFor_of_name wp_RX8⟩
theorem mv8_isLetter : mS m8_isLetter := (tb_i 443 (by decide +kernel) : Cond.static yX8_isLetter ∈ lw_tbl)
def f8_isLetter (x0 : Int32) : Option (Int32) := (if x0 < (97 : Int32) then (if x0 < (65 : Int32) then some ((0 : Int32)) else (if (90 : Int32) < x0 then some ((0 : Int32)) else some ((1 : Int32)))) else (if x0 ≤ (122 : Int32) then some ((1 : Int32)) else (if x0 < (65 : Int32) then some ((0 : Int32)) else (if (90 : Int32) < x0 then some ((0 : Int32)) else some ((1 : Int32))))))
set_option maxHeartbeats 4000000 in
set_option maxRecDepth 20000 in
theorem o8_isLetter {g : pG} {Qx : Option Value → pW → Prop} {Z : pZ} {I : (Nat → Nat → Int32)} {L : (Nat → Nat → Int64)} {O : (Nat → Nat → Option Nat)} {x0 : Int32} {res : Int32} (d : Nat) (hW : WT Z O) (h : f8_isLetter x0 = some res) (hQ : (res = 0 ∨ res = 1) → Qx (some (.int res)) (Z, I, L, O)) : Ok g (d + 2, RX8, cX8_isLetter, 1, false, 0, 0, Z.length, pSl Z) Qx 0 [(0, .int x0)] [] (Z, I, L, O) := by
  unfold f8_isLetter at h
  refine ok_iload_n dX8_isLetter_0 0 rfl ?_
  refine ok_bipush (v := 97) dX8_isLetter_1 (by decide) ?_
  refine ok_icmp_lt (t := 12) dX8_isLetter_3 (by decide) (fun hc1 => ?_) (fun hc1 => ?_)
  · have h := (if_pos hc1).symm.trans h
    refine ok_iload_n dX8_isLetter_12 0 rfl ?_
    refine ok_bipush (v := 65) dX8_isLetter_13 (by decide) ?_
    refine ok_icmp_lt (t := 28) dX8_isLetter_15 (by decide) (fun hc2 => ?_) (fun hc2 => ?_)
    · have h := (if_pos hc2).symm.trans h
      refine ok_iconst (v := 0) dX8_isLetter_28 (by decide) ?_
      cases h
      exact ok_iret dX8_isLetter_29 (hQ (Or.inl rfl))
    · have h := (if_neg hc2).symm.trans h
      refine ok_iload_n dX8_isLetter_18 0 rfl ?_
      refine ok_bipush (v := 90) dX8_isLetter_19 (by decide) ?_
      refine ok_icmp_gt (t := 28) dX8_isLetter_21 (by decide) (fun hc3 => ?_) (fun hc3 => ?_)
      · have h := (if_pos hc3).symm.trans h
        refine ok_iconst (v := 0) dX8_isLetter_28 (by decide) ?_
        cases h
        exact ok_iret dX8_isLetter_29 (hQ (Or.inl rfl))
      · have h := (if_neg hc3).symm.trans h
        refine ok_iconst (v := 1) dX8_isLetter_24 (by decide) ?_
        refine ok_goto (t := 29) dX8_isLetter_25 (by decide) ?_
        cases h
        exact ok_iret dX8_isLetter_29 (hQ (Or.inr rfl))
  · have h := (if_neg hc1).symm.trans h
    refine ok_iload_n dX8_isLetter_6 0 rfl ?_
    refine ok_bipush (v := 122) dX8_isLetter_7 (by decide) ?_
    refine ok_icmp_le (t := 24) dX8_isLetter_9 (by decide) (fun hc4 => ?_) (fun hc4 => ?_)
    · have h := (if_pos hc4).symm.trans h
      refine ok_iconst (v := 1) dX8_isLetter_24 (by decide) ?_
      refine ok_goto (t := 29) dX8_isLetter_25 (by decide) ?_
      cases h
      exact ok_iret dX8_isLetter_29 (hQ (Or.inr rfl))
    · have h := (if_neg hc4).symm.trans h
      refine ok_iload_n dX8_isLetter_12 0 rfl ?_
      refine ok_bipush (v := 65) dX8_isLetter_13 (by decide) ?_
      refine ok_icmp_lt (t := 28) dX8_isLetter_15 (by decide) (fun hc5 => ?_) (fun hc5 => ?_)
      · have h := (if_pos hc5).symm.trans h
        refine ok_iconst (v := 0) dX8_isLetter_28 (by decide) ?_
        cases h
        exact ok_iret dX8_isLetter_29 (hQ (Or.inl rfl))
      · have h := (if_neg hc5).symm.trans h
        refine ok_iload_n dX8_isLetter_18 0 rfl ?_
        refine ok_bipush (v := 90) dX8_isLetter_19 (by decide) ?_
        refine ok_icmp_gt (t := 28) dX8_isLetter_21 (by decide) (fun hc6 => ?_) (fun hc6 => ?_)
        · have h := (if_pos hc6).symm.trans h
          refine ok_iconst (v := 0) dX8_isLetter_28 (by decide) ?_
          cases h
          exact ok_iret dX8_isLetter_29 (hQ (Or.inl rfl))
        · have h := (if_neg hc6).symm.trans h
          refine ok_iconst (v := 1) dX8_isLetter_24 (by decide) ?_
          refine ok_goto (t := 29) dX8_isLetter_25 (by decide) ?_
          cases h
          exact ok_iret dX8_isLetter_29 (hQ (Or.inr rfl))
theorem k8_isLetter {g : pG} {Q : Option Value → pW → Prop} {Z : pZ} {I : (Nat → Nat → Int32)} {L : (Nat → Nat → Int64)} {O : (Nat → Nat → Option Nat)} {x0 : Int32} {res : Int32} (d : Nat) (hW : WT Z O) (h : f8_isLetter x0 = some res) (hQ : Q (some (.int res)) (Z, I, L, O)) : CT g (d + 2) m8_isLetter 0 0 [.int x0] (Z, I, L, O) Q :=
  ct_of_ok (mt := m8_isLetter) (ini := false) mo8_isLetter.2.2.2.2 (fun h => by cases h) (Nat.le_of_ble_eq_true rfl) (o8_isLetter d hW  h (fun hb => ⟨hb, hQ, rfl, rfl⟩))
theorem dX8_isSign_0 : decode cX8_isSign 0 = .ok (.iload_n 0, 1) := by decide +kernel
theorem dX8_isSign_1 : decode cX8_isSign 1 = .ok (.tableswitch 129 35 62 #[127, 129, 129, 129, 129, 127, 127, 127, 127, 127, 127, 129, 127, 129, 129, 129, 129, 129, 129, 129, 129, 129, 129, 129, 127, 127, 127, 127], 127) := by decide +kernel
theorem dX8_isSign_128 : decode cX8_isSign 128 = .ok (.iconst 1, 1) := by decide +kernel
theorem dX8_isSign_129 : decode cX8_isSign 129 = .ok (.ireturn, 1) := by decide +kernel
theorem dX8_isSign_130 : decode cX8_isSign 130 = .ok (.iconst 0, 1) := by decide +kernel
theorem dX8_isSign_131 : decode cX8_isSign 131 = .ok (.ireturn, 1) := by decide +kernel
def m8_isSign : pMT := (yX8_isSign, cX8_isSign, 1, some .boolean)
theorem mo8_isSign : mOK m8_isSign 1 := ⟨tb_i 526 (by decide +kernel), wi_RX8, ⟨wn_RX8.1, wn_RX8.2, by decide +kernel⟩, by decide, plainFor_of_name wp_RX8⟩
theorem mv8_isSign : mS m8_isSign := (tb_i 525 (by decide +kernel) : Cond.static yX8_isSign ∈ lw_tbl)
def f8_isSign (x0 : Int32) : Option (Int32) := (if x0 = 35 then some ((1 : Int32)) else (if x0 = 40 then some ((1 : Int32)) else (if x0 = 41 then some ((1 : Int32)) else (if x0 = 42 then some ((1 : Int32)) else (if x0 = 43 then some ((1 : Int32)) else (if x0 = 44 then some ((1 : Int32)) else (if x0 = 45 then some ((1 : Int32)) else (if x0 = 47 then some ((1 : Int32)) else (if x0 = 59 then some ((1 : Int32)) else (if x0 = 60 then some ((1 : Int32)) else (if x0 = 61 then some ((1 : Int32)) else (if x0 = 62 then some ((1 : Int32)) else some ((0 : Int32))))))))))))))
set_option maxHeartbeats 4000000 in
set_option maxRecDepth 20000 in
theorem o8_isSign {g : pG} {Qx : Option Value → pW → Prop} {Z : pZ} {I : (Nat → Nat → Int32)} {L : (Nat → Nat → Int64)} {O : (Nat → Nat → Option Nat)} {x0 : Int32} {res : Int32} (d : Nat) (hW : WT Z O) (h : f8_isSign x0 = some res) (hQ : (res = 0 ∨ res = 1) → Qx (some (.int res)) (Z, I, L, O)) : Ok g (d + 2, RX8, cX8_isSign, 1, false, 0, 0, Z.length, pSl Z) Qx 0 [(0, .int x0)] [] (Z, I, L, O) := by
  unfold f8_isSign at h
  refine ok_iload_n dX8_isSign_0 0 rfl ?_
  by_cases hc1 : x0 = 35
  · have h := (if_pos hc1).symm.trans h
    refine ok_tabEq (t := 128) (off := 127) dX8_isSign_1 hc1 (by decide) (by decide) (by decide) (by decide) ?_
    refine ok_iconst (v := 1) dX8_isSign_128 (by decide) ?_
    cases h
    exact ok_iret dX8_isSign_129 (hQ (Or.inr rfl))
  · have h := (if_neg hc1).symm.trans h
    by_cases hc2 : x0 = 40
    · have h := (if_pos hc2).symm.trans h
      refine ok_tabEq (t := 128) (off := 127) dX8_isSign_1 hc2 (by decide) (by decide) (by decide) (by decide) ?_
      refine ok_iconst (v := 1) dX8_isSign_128 (by decide) ?_
      cases h
      exact ok_iret dX8_isSign_129 (hQ (Or.inr rfl))
    · have h := (if_neg hc2).symm.trans h
      by_cases hc3 : x0 = 41
      · have h := (if_pos hc3).symm.trans h
        refine ok_tabEq (t := 128) (off := 127) dX8_isSign_1 hc3 (by decide) (by decide) (by decide) (by decide) ?_
        refine ok_iconst (v := 1) dX8_isSign_128 (by decide) ?_
        cases h
        exact ok_iret dX8_isSign_129 (hQ (Or.inr rfl))
      · have h := (if_neg hc3).symm.trans h
        by_cases hc4 : x0 = 42
        · have h := (if_pos hc4).symm.trans h
          refine ok_tabEq (t := 128) (off := 127) dX8_isSign_1 hc4 (by decide) (by decide) (by decide) (by decide) ?_
          refine ok_iconst (v := 1) dX8_isSign_128 (by decide) ?_
          cases h
          exact ok_iret dX8_isSign_129 (hQ (Or.inr rfl))
        · have h := (if_neg hc4).symm.trans h
          by_cases hc5 : x0 = 43
          · have h := (if_pos hc5).symm.trans h
            refine ok_tabEq (t := 128) (off := 127) dX8_isSign_1 hc5 (by decide) (by decide) (by decide) (by decide) ?_
            refine ok_iconst (v := 1) dX8_isSign_128 (by decide) ?_
            cases h
            exact ok_iret dX8_isSign_129 (hQ (Or.inr rfl))
          · have h := (if_neg hc5).symm.trans h
            by_cases hc6 : x0 = 44
            · have h := (if_pos hc6).symm.trans h
              refine ok_tabEq (t := 128) (off := 127) dX8_isSign_1 hc6 (by decide) (by decide) (by decide) (by decide) ?_
              refine ok_iconst (v := 1) dX8_isSign_128 (by decide) ?_
              cases h
              exact ok_iret dX8_isSign_129 (hQ (Or.inr rfl))
            · have h := (if_neg hc6).symm.trans h
              by_cases hc7 : x0 = 45
              · have h := (if_pos hc7).symm.trans h
                refine ok_tabEq (t := 128) (off := 127) dX8_isSign_1 hc7 (by decide) (by decide) (by decide) (by decide) ?_
                refine ok_iconst (v := 1) dX8_isSign_128 (by decide) ?_
                cases h
                exact ok_iret dX8_isSign_129 (hQ (Or.inr rfl))
              · have h := (if_neg hc7).symm.trans h
                by_cases hc8 : x0 = 47
                · have h := (if_pos hc8).symm.trans h
                  refine ok_tabEq (t := 128) (off := 127) dX8_isSign_1 hc8 (by decide) (by decide) (by decide) (by decide) ?_
                  refine ok_iconst (v := 1) dX8_isSign_128 (by decide) ?_
                  cases h
                  exact ok_iret dX8_isSign_129 (hQ (Or.inr rfl))
                · have h := (if_neg hc8).symm.trans h
                  by_cases hc9 : x0 = 59
                  · have h := (if_pos hc9).symm.trans h
                    refine ok_tabEq (t := 128) (off := 127) dX8_isSign_1 hc9 (by decide) (by decide) (by decide) (by decide) ?_
                    refine ok_iconst (v := 1) dX8_isSign_128 (by decide) ?_
                    cases h
                    exact ok_iret dX8_isSign_129 (hQ (Or.inr rfl))
                  · have h := (if_neg hc9).symm.trans h
                    by_cases hc10 : x0 = 60
                    · have h := (if_pos hc10).symm.trans h
                      refine ok_tabEq (t := 128) (off := 127) dX8_isSign_1 hc10 (by decide) (by decide) (by decide) (by decide) ?_
                      refine ok_iconst (v := 1) dX8_isSign_128 (by decide) ?_
                      cases h
                      exact ok_iret dX8_isSign_129 (hQ (Or.inr rfl))
                    · have h := (if_neg hc10).symm.trans h
                      by_cases hc11 : x0 = 61
                      · have h := (if_pos hc11).symm.trans h
                        refine ok_tabEq (t := 128) (off := 127) dX8_isSign_1 hc11 (by decide) (by decide) (by decide) (by decide) ?_
                        refine ok_iconst (v := 1) dX8_isSign_128 (by decide) ?_
                        cases h
                        exact ok_iret dX8_isSign_129 (hQ (Or.inr rfl))
                      · have h := (if_neg hc11).symm.trans h
                        by_cases hc12 : x0 = 62
                        · have h := (if_pos hc12).symm.trans h
                          refine ok_tabEq (t := 128) (off := 127) dX8_isSign_1 hc12 (by decide) (by decide) (by decide) (by decide) ?_
                          refine ok_iconst (v := 1) dX8_isSign_128 (by decide) ?_
                          cases h
                          exact ok_iret dX8_isSign_129 (hQ (Or.inr rfl))
                        · have h := (if_neg hc12).symm.trans h
                          by_cases hc13 : x0 = 36
                          · refine ok_tabEq (t := 130) (off := 129) dX8_isSign_1 hc13 (by decide) (by decide) (by decide) (by decide) ?_
                            refine ok_iconst (v := 0) dX8_isSign_130 (by decide) ?_
                            cases h
                            exact ok_iret dX8_isSign_131 (hQ (Or.inl rfl))
                          · by_cases hc14 : x0 = 37
                            · refine ok_tabEq (t := 130) (off := 129) dX8_isSign_1 hc14 (by decide) (by decide) (by decide) (by decide) ?_
                              refine ok_iconst (v := 0) dX8_isSign_130 (by decide) ?_
                              cases h
                              exact ok_iret dX8_isSign_131 (hQ (Or.inl rfl))
                            · by_cases hc15 : x0 = 38
                              · refine ok_tabEq (t := 130) (off := 129) dX8_isSign_1 hc15 (by decide) (by decide) (by decide) (by decide) ?_
                                refine ok_iconst (v := 0) dX8_isSign_130 (by decide) ?_
                                cases h
                                exact ok_iret dX8_isSign_131 (hQ (Or.inl rfl))
                              · by_cases hc16 : x0 = 39
                                · refine ok_tabEq (t := 130) (off := 129) dX8_isSign_1 hc16 (by decide) (by decide) (by decide) (by decide) ?_
                                  refine ok_iconst (v := 0) dX8_isSign_130 (by decide) ?_
                                  cases h
                                  exact ok_iret dX8_isSign_131 (hQ (Or.inl rfl))
                                · by_cases hc17 : x0 = 46
                                  · refine ok_tabEq (t := 130) (off := 129) dX8_isSign_1 hc17 (by decide) (by decide) (by decide) (by decide) ?_
                                    refine ok_iconst (v := 0) dX8_isSign_130 (by decide) ?_
                                    cases h
                                    exact ok_iret dX8_isSign_131 (hQ (Or.inl rfl))
                                  · by_cases hc18 : x0 = 48
                                    · refine ok_tabEq (t := 130) (off := 129) dX8_isSign_1 hc18 (by decide) (by decide) (by decide) (by decide) ?_
                                      refine ok_iconst (v := 0) dX8_isSign_130 (by decide) ?_
                                      cases h
                                      exact ok_iret dX8_isSign_131 (hQ (Or.inl rfl))
                                    · by_cases hc19 : x0 = 49
                                      · refine ok_tabEq (t := 130) (off := 129) dX8_isSign_1 hc19 (by decide) (by decide) (by decide) (by decide) ?_
                                        refine ok_iconst (v := 0) dX8_isSign_130 (by decide) ?_
                                        cases h
                                        exact ok_iret dX8_isSign_131 (hQ (Or.inl rfl))
                                      · by_cases hc20 : x0 = 50
                                        · refine ok_tabEq (t := 130) (off := 129) dX8_isSign_1 hc20 (by decide) (by decide) (by decide) (by decide) ?_
                                          refine ok_iconst (v := 0) dX8_isSign_130 (by decide) ?_
                                          cases h
                                          exact ok_iret dX8_isSign_131 (hQ (Or.inl rfl))
                                        · by_cases hc21 : x0 = 51
                                          · refine ok_tabEq (t := 130) (off := 129) dX8_isSign_1 hc21 (by decide) (by decide) (by decide) (by decide) ?_
                                            refine ok_iconst (v := 0) dX8_isSign_130 (by decide) ?_
                                            cases h
                                            exact ok_iret dX8_isSign_131 (hQ (Or.inl rfl))
                                          · by_cases hc22 : x0 = 52
                                            · refine ok_tabEq (t := 130) (off := 129) dX8_isSign_1 hc22 (by decide) (by decide) (by decide) (by decide) ?_
                                              refine ok_iconst (v := 0) dX8_isSign_130 (by decide) ?_
                                              cases h
                                              exact ok_iret dX8_isSign_131 (hQ (Or.inl rfl))
                                            · by_cases hc23 : x0 = 53
                                              · refine ok_tabEq (t := 130) (off := 129) dX8_isSign_1 hc23 (by decide) (by decide) (by decide) (by decide) ?_
                                                refine ok_iconst (v := 0) dX8_isSign_130 (by decide) ?_
                                                cases h
                                                exact ok_iret dX8_isSign_131 (hQ (Or.inl rfl))
                                              · by_cases hc24 : x0 = 54
                                                · refine ok_tabEq (t := 130) (off := 129) dX8_isSign_1 hc24 (by decide) (by decide) (by decide) (by decide) ?_
                                                  refine ok_iconst (v := 0) dX8_isSign_130 (by decide) ?_
                                                  cases h
                                                  exact ok_iret dX8_isSign_131 (hQ (Or.inl rfl))
                                                · by_cases hc25 : x0 = 55
                                                  · refine ok_tabEq (t := 130) (off := 129) dX8_isSign_1 hc25 (by decide) (by decide) (by decide) (by decide) ?_
                                                    refine ok_iconst (v := 0) dX8_isSign_130 (by decide) ?_
                                                    cases h
                                                    exact ok_iret dX8_isSign_131 (hQ (Or.inl rfl))
                                                  · by_cases hc26 : x0 = 56
                                                    · refine ok_tabEq (t := 130) (off := 129) dX8_isSign_1 hc26 (by decide) (by decide) (by decide) (by decide) ?_
                                                      refine ok_iconst (v := 0) dX8_isSign_130 (by decide) ?_
                                                      cases h
                                                      exact ok_iret dX8_isSign_131 (hQ (Or.inl rfl))
                                                    · by_cases hc27 : x0 = 57
                                                      · refine ok_tabEq (t := 130) (off := 129) dX8_isSign_1 hc27 (by decide) (by decide) (by decide) (by decide) ?_
                                                        refine ok_iconst (v := 0) dX8_isSign_130 (by decide) ?_
                                                        cases h
                                                        exact ok_iret dX8_isSign_131 (hQ (Or.inl rfl))
                                                      · by_cases hc28 : x0 = 58
                                                        · refine ok_tabEq (t := 130) (off := 129) dX8_isSign_1 hc28 (by decide) (by decide) (by decide) (by decide) ?_
                                                          refine ok_iconst (v := 0) dX8_isSign_130 (by decide) ?_
                                                          cases h
                                                          exact ok_iret dX8_isSign_131 (hQ (Or.inl rfl))
                                                        · refine ok_tabOut (t := 130) dX8_isSign_1 (by have n35 := neI hc1 (a := 35) (by decide); have n40 := neI hc2 (a := 40) (by decide); have n41 := neI hc3 (a := 41) (by decide); have n42 := neI hc4 (a := 42) (by decide); have n43 := neI hc5 (a := 43) (by decide); have n44 := neI hc6 (a := 44) (by decide); have n45 := neI hc7 (a := 45) (by decide); have n47 := neI hc8 (a := 47) (by decide); have n59 := neI hc9 (a := 59) (by decide); have n60 := neI hc10 (a := 60) (by decide); have n61 := neI hc11 (a := 61) (by decide); have n62 := neI hc12 (a := 62) (by decide); have n36 := neI hc13 (a := 36) (by decide); have n37 := neI hc14 (a := 37) (by decide); have n38 := neI hc15 (a := 38) (by decide); have n39 := neI hc16 (a := 39) (by decide); have n46 := neI hc17 (a := 46) (by decide); have n48 := neI hc18 (a := 48) (by decide); have n49 := neI hc19 (a := 49) (by decide); have n50 := neI hc20 (a := 50) (by decide); have n51 := neI hc21 (a := 51) (by decide); have n52 := neI hc22 (a := 52) (by decide); have n53 := neI hc23 (a := 53) (by decide); have n54 := neI hc24 (a := 54) (by decide); have n55 := neI hc25 (a := 55) (by decide); have n56 := neI hc26 (a := 56) (by decide); have n57 := neI hc27 (a := 57) (by decide); have n58 := neI hc28 (a := 58) (by decide); omega) (by decide) ?_
                                                          refine ok_iconst (v := 0) dX8_isSign_130 (by decide) ?_
                                                          cases h
                                                          exact ok_iret dX8_isSign_131 (hQ (Or.inl rfl))
theorem k8_isSign {g : pG} {Q : Option Value → pW → Prop} {Z : pZ} {I : (Nat → Nat → Int32)} {L : (Nat → Nat → Int64)} {O : (Nat → Nat → Option Nat)} {x0 : Int32} {res : Int32} (d : Nat) (hW : WT Z O) (h : f8_isSign x0 = some res) (hQ : Q (some (.int res)) (Z, I, L, O)) : CT g (d + 2) m8_isSign 0 0 [.int x0] (Z, I, L, O) Q :=
  ct_of_ok (mt := m8_isSign) (ini := false) mo8_isSign.2.2.2.2 (fun h => by cases h) (Nat.le_of_ble_eq_true rfl) (o8_isSign d hW  h (fun hb => ⟨hb, hQ, rfl, rfl⟩))
theorem dX8_numberEnd_0 : decode cX8_numberEnd 0 = .ok (.iload_n 1, 1) := by decide +kernel
theorem dX8_numberEnd_1 : decode cX8_numberEnd 1 = .ok (.istore_n 2, 1) := by decide +kernel
theorem dX8_numberEnd_2 : decode cX8_numberEnd 2 = .ok (.iload_n 2, 1) := by decide +kernel
theorem dX8_numberEnd_3 : decode cX8_numberEnd 3 = .ok (.aload_n 0, 1) := by decide +kernel
theorem dX8_numberEnd_4 : decode cX8_numberEnd 4 = .ok (.getfield 24, 3) := by decide +kernel
theorem dX8_numberEnd_7 : decode cX8_numberEnd 7 = .ok (.if_icmp .ge 20, 3) := by decide +kernel
theorem dX8_numberEnd_10 : decode cX8_numberEnd 10 = .ok (.aload_n 0, 1) := by decide +kernel
theorem dX8_numberEnd_11 : decode cX8_numberEnd 11 = .ok (.iload_n 2, 1) := by decide +kernel
theorem dX8_numberEnd_12 : decode cX8_numberEnd 12 = .ok (.invokevirtual 56, 3) := by decide +kernel
theorem dX8_numberEnd_15 : decode cX8_numberEnd 15 = .ok (.invokestatic 47, 3) := by decide +kernel
theorem dX8_numberEnd_18 : decode cX8_numberEnd 18 = .ok (.ifCond .eq 9, 3) := by decide +kernel
theorem dX8_numberEnd_21 : decode cX8_numberEnd 21 = .ok (.iinc 2 1, 3) := by decide +kernel
theorem dX8_numberEnd_24 : decode cX8_numberEnd 24 = .ok (.goto (-22), 3) := by decide +kernel
theorem dX8_numberEnd_27 : decode cX8_numberEnd 27 = .ok (.iload_n 2, 1) := by decide +kernel
theorem dX8_numberEnd_28 : decode cX8_numberEnd 28 = .ok (.ireturn, 1) := by decide +kernel
def m8_numberEnd : pMT := (yX8_numberEnd, cX8_numberEnd, 3, some .int)
theorem mo8_numberEnd : mOK m8_numberEnd 1 := ⟨tb_i 516 (by decide +kernel), wi_RX8, ⟨wn_RX8.1, wn_RX8.2, by decide +kernel⟩, by decide, plainFor_of_name wp_RX8⟩
theorem mv8_numberEnd : mV m8_numberEnd := ⟨tb_i 515 (by decide +kernel), tb_p 4 (by decide +kernel)⟩
def f8_numberEnd_c2 (n : Nat) (I : (Nat → Nat → Int32)) (O : (Nat → Nat → Option Nat)) : Nat → Nat → Int32 → Option (Int32)
  | 0, _, _ => none
  | m + 1, b0, y2 => (if (I b0 4) ≤ y2 then some (y2) else (f8_byteAt I O b0 y2).bind fun r2 => (f8_isDigit r2).bind fun r4 => (if r4 = 0 then some (y2) else f8_numberEnd_c2 n I O m b0 (y2 + 1)))
set_option maxHeartbeats 4000000 in
set_option maxRecDepth 20000 in
theorem o8_numberEnd_c2 {g : pG} {Qx : Option Value → pW → Prop} {Z : pZ} {I : (Nat → Nat → Int32)} {L : (Nat → Nat → Int64)} {O : (Nat → Nat → Option Nat)} {n : Nat} {res : Int32} (d : Nat) (hW : WT Z O) (hQ : Qx (some (.int res)) (Z, I, L, O)) : ∀ (m : Nat) (b0 : Nat) (y2 : Int32), (Z[b0]? = some (8, 6)) → f8_numberEnd_c2 n I O m b0 y2 = some res → Ok g (d + 3, RX8, cX8_numberEnd, 3, false, 0, 0, Z.length, pSl Z) Qx 2 [(0, .ref b0), (2, .int y2)] [] (Z, I, L, O) := by
  intro m
  induction m with
  | zero => intro b0 y2 hZ_b0 h; rw [f8_numberEnd_c2] at h; cases h
  | succ m ih =>
    intro b0 y2 hZ_b0 h
    rw [f8_numberEnd_c2] at h
    refine ok_iload_n dX8_numberEnd_2 1 rfl ?_
    refine ok_aload_n dX8_numberEnd_3 0 rfl ?_
    refine ok_getI (ci := 8) (k := 4) dX8_numberEnd_4 flRX8_24 rfl hZ_b0 (by decide) ?_
    refine ok_icmp_ge (t := 27) dX8_numberEnd_7 (by decide) (fun hc1 => ?_) (fun hc1 => ?_)
    · have h := (if_pos hc1).symm.trans h
      refine ok_iload_n dX8_numberEnd_27 1 rfl ?_
      cases h
      exact ok_iret dX8_numberEnd_28 hQ
    · have h := (if_neg hc1).symm.trans h
      refine ok_aload_n dX8_numberEnd_10 0 rfl ?_
      refine ok_iload_n dX8_numberEnd_11 1 rfl ?_
      obtain ⟨r2, hr3, h⟩ := bd h
      refine ok_callV (d := ((d + 0) + 2)) (mt := m8_byteAt) (mc := 0) (ms := 0) (As := [.int y2]) (r := []) dX8_numberEnd_12 mo8_byteAt mv8_byteAt lkRX8_56 rfl hZ_b0 (q := (RX8, TX8, 6)) rfl rfl rfl (Nat.le_of_ble_eq_true rfl) (by show _ + 1 ≤ d + _; omega) (Nat.le_refl _) (Nat.le_refl _) (pRt_mono ?_)
      refine k8_byteAt (d + 0) hW hZ_b0 hr3 ?_
      intro _
      show Ok g _ Qx 15 [(0, .ref b0), (2, .int y2)] [.int r2] (Z, I, L, O)
      obtain ⟨r4, hr5, h⟩ := bd h
      refine ok_callS (d := ((d + 0) + 2)) (mt := m8_isDigit) (mc := 0) (ms := 0) (As := [.int r2]) (r := []) dX8_numberEnd_15 mo8_isDigit mv8_isDigit lkRX8_47 rfl rfl (Nat.le_of_ble_eq_true rfl) (by show _ + 1 ≤ d + _; omega) (Nat.le_refl _) (Nat.le_refl _) (pRt_mono ?_)
      refine k8_isDigit (d + 0) hW  hr5 ?_
      intro hbr4
      show Ok g _ Qx 18 [(0, .ref b0), (2, .int y2)] [.int r4] (Z, I, L, O)
      refine ok_if_eq (t := 27) dX8_numberEnd_18 (by decide) (fun hc6 => ?_) (fun hc6 => ?_)
      · have h := (if_pos hc6).symm.trans h
        refine ok_iload_n dX8_numberEnd_27 1 rfl ?_
        cases h
        exact ok_iret dX8_numberEnd_28 hQ
      · have h := (if_neg hc6).symm.trans h
        refine ok_iinc (u := (y2 + 1)) (l' := [(2, .int (y2 + 1)), (0, .ref b0)]) dX8_numberEnd_21 1 rfl rfl (Nat.le_of_ble_eq_true rfl) rfl ?_
        refine ok_goto (t := 2) dX8_numberEnd_24 (by decide) ?_
        refine ok_sub [1, 0] rfl ?_
        exact ih b0 (y2 + 1) hZ_b0 h
def f8_numberEnd (n : Nat) (I : (Nat → Nat → Int32)) (O : (Nat → Nat → Option Nat)) (a0 : Nat) (x1 : Int32) : Option (Int32) := f8_numberEnd_c2 n I O n a0 x1
set_option maxHeartbeats 4000000 in
set_option maxRecDepth 20000 in
theorem o8_numberEnd {g : pG} {Qx : Option Value → pW → Prop} {Z : pZ} {I : (Nat → Nat → Int32)} {L : (Nat → Nat → Int64)} {O : (Nat → Nat → Option Nat)} {n : Nat} {a0 : Nat} {x1 : Int32} {res : Int32} (d : Nat) (hW : WT Z O) (hZ0 : Z[a0]? = some (8, 6)) (h : f8_numberEnd n I O a0 x1 = some res) (hQ : Qx (some (.int res)) (Z, I, L, O)) : Ok g (d + 3, RX8, cX8_numberEnd, 3, false, 0, 0, Z.length, pSl Z) Qx 0 [(0, .ref a0), (1, .int x1)] [] (Z, I, L, O) := by
  unfold f8_numberEnd at h
  refine ok_iload_n dX8_numberEnd_0 1 rfl ?_
  refine ok_istore_n (l' := [(2, .int x1), (0, .ref a0), (1, .int x1)]) dX8_numberEnd_1 rfl (Nat.le_of_ble_eq_true rfl) rfl ?_
  refine ok_sub [1, 0] rfl ?_
  exact o8_numberEnd_c2 d hW hQ  n a0 x1 hZ0 h
theorem k8_numberEnd {g : pG} {Q : Option Value → pW → Prop} {Z : pZ} {I : (Nat → Nat → Int32)} {L : (Nat → Nat → Int64)} {O : (Nat → Nat → Option Nat)} {n : Nat} {a0 : Nat} {x1 : Int32} {res : Int32} (d : Nat) (hW : WT Z O) (hZ0 : Z[a0]? = some (8, 6)) (h : f8_numberEnd n I O a0 x1 = some res) (hQ : Q (some (.int res)) (Z, I, L, O)) : CT g (d + 3) m8_numberEnd 0 0 [.ref a0, .int x1] (Z, I, L, O) Q :=
  ct_of_ok (mt := m8_numberEnd) (ini := false) mo8_numberEnd.2.2.2.2 (fun h => by cases h) (Nat.le_of_ble_eq_true rfl) (o8_numberEnd d hW hZ0 h ⟨trivial, hQ, rfl, rfl⟩)
theorem dX8_numberOf_0 : decode cX8_numberOf 0 = .ok (.iconst 0, 1) := by decide +kernel
theorem dX8_numberOf_1 : decode cX8_numberOf 1 = .ok (.istore_n 3, 1) := by decide +kernel
theorem dX8_numberOf_2 : decode cX8_numberOf 2 = .ok (.iload_n 1, 1) := by decide +kernel
theorem dX8_numberOf_3 : decode cX8_numberOf 3 = .ok (.istore 4, 2) := by decide +kernel
theorem dX8_numberOf_5 : decode cX8_numberOf 5 = .ok (.iload 4, 2) := by decide +kernel
theorem dX8_numberOf_7 : decode cX8_numberOf 7 = .ok (.iload_n 2, 1) := by decide +kernel
theorem dX8_numberOf_8 : decode cX8_numberOf 8 = .ok (.if_icmp .ge 30, 3) := by decide +kernel
theorem dX8_numberOf_11 : decode cX8_numberOf 11 = .ok (.sipush 10000, 3) := by decide +kernel
theorem dX8_numberOf_14 : decode cX8_numberOf 14 = .ok (.iload_n 3, 1) := by decide +kernel
theorem dX8_numberOf_15 : decode cX8_numberOf 15 = .ok (.bipush 10, 2) := by decide +kernel
theorem dX8_numberOf_17 : decode cX8_numberOf 17 = .ok (.imul, 1) := by decide +kernel
theorem dX8_numberOf_18 : decode cX8_numberOf 18 = .ok (.aload_n 0, 1) := by decide +kernel
theorem dX8_numberOf_19 : decode cX8_numberOf 19 = .ok (.iload 4, 2) := by decide +kernel
theorem dX8_numberOf_21 : decode cX8_numberOf 21 = .ok (.invokevirtual 56, 3) := by decide +kernel
theorem dX8_numberOf_24 : decode cX8_numberOf 24 = .ok (.iadd, 1) := by decide +kernel
theorem dX8_numberOf_25 : decode cX8_numberOf 25 = .ok (.bipush 48, 2) := by decide +kernel
theorem dX8_numberOf_27 : decode cX8_numberOf 27 = .ok (.isub, 1) := by decide +kernel
theorem dX8_numberOf_28 : decode cX8_numberOf 28 = .ok (.invokestatic 67, 3) := by decide +kernel
theorem dX8_numberOf_31 : decode cX8_numberOf 31 = .ok (.istore_n 3, 1) := by decide +kernel
theorem dX8_numberOf_32 : decode cX8_numberOf 32 = .ok (.iinc 4 1, 3) := by decide +kernel
theorem dX8_numberOf_35 : decode cX8_numberOf 35 = .ok (.goto (-30), 3) := by decide +kernel
theorem dX8_numberOf_38 : decode cX8_numberOf 38 = .ok (.iload_n 3, 1) := by decide +kernel
theorem dX8_numberOf_39 : decode cX8_numberOf 39 = .ok (.ireturn, 1) := by decide +kernel
def m8_numberOf : pMT := (yX8_numberOf, cX8_numberOf, 5, some .int)
theorem mo8_numberOf : mOK m8_numberOf 2 := ⟨tb_i 520 (by decide +kernel), wi_RX8, ⟨wn_RX8.1, wn_RX8.2, by decide +kernel⟩, by decide, plainFor_of_name wp_RX8⟩
theorem mv8_numberOf : mV m8_numberOf := ⟨tb_i 519 (by decide +kernel), tb_p 5 (by decide +kernel)⟩
def f8_numberOf_c5 (n : Nat) (I : (Nat → Nat → Int32)) (O : (Nat → Nat → Option Nat)) : Nat → Nat → Int32 → Int32 → Int32 → Option (Int32)
  | 0, _, _, _, _ => none
  | m + 1, b0, y2, y3, y4 => (if y2 ≤ y4 then some (y3) else (f8_byteAt I O b0 y4).bind fun r2 => (fJ9_min_7cf53 (10000 : Int32) (((y3 * 10) + r2) - 48)).bind fun r4 => f8_numberOf_c5 n I O m b0 y2 r4 (y4 + 1))
set_option maxHeartbeats 4000000 in
set_option maxRecDepth 20000 in
theorem o8_numberOf_c5 {g : pG} {Qx : Option Value → pW → Prop} {Z : pZ} {I : (Nat → Nat → Int32)} {L : (Nat → Nat → Int64)} {O : (Nat → Nat → Option Nat)} {n : Nat} {res : Int32} (d : Nat) (hW : WT Z O) (hQ : Qx (some (.int res)) (Z, I, L, O)) : ∀ (m : Nat) (b0 : Nat) (y2 : Int32) (y3 : Int32) (y4 : Int32), (Z[b0]? = some (8, 6)) → f8_numberOf_c5 n I O m b0 y2 y3 y4 = some res → Ok g (d + 3, RX8, cX8_numberOf, 5, false, 0, 0, Z.length, pSl Z) Qx 5 [(0, .ref b0), (2, .int y2), (3, .int y3), (4, .int y4)] [] (Z, I, L, O) := by
  intro m
  induction m with
  | zero => intro b0 y2 y3 y4 hZ_b0 h; rw [f8_numberOf_c5] at h; cases h
  | succ m ih =>
    intro b0 y2 y3 y4 hZ_b0 h
    rw [f8_numberOf_c5] at h
    refine ok_iload dX8_numberOf_5 3 rfl ?_
    refine ok_iload_n dX8_numberOf_7 1 rfl ?_
    refine ok_icmp_ge (t := 38) dX8_numberOf_8 (by decide) (fun hc1 => ?_) (fun hc1 => ?_)
    · have h := (if_pos hc1).symm.trans h
      refine ok_iload_n dX8_numberOf_38 2 rfl ?_
      cases h
      exact ok_iret dX8_numberOf_39 hQ
    · have h := (if_neg hc1).symm.trans h
      refine ok_sipush (v := 10000) dX8_numberOf_11 (by decide) ?_
      refine ok_iload_n dX8_numberOf_14 2 rfl ?_
      refine ok_bipush (v := 10) dX8_numberOf_15 (by decide) ?_
      refine ok_imul dX8_numberOf_17 ?_
      refine ok_aload_n dX8_numberOf_18 0 rfl ?_
      refine ok_iload dX8_numberOf_19 3 rfl ?_
      obtain ⟨r2, hr3, h⟩ := bd h
      refine ok_callV (d := ((d + 0) + 2)) (mt := m8_byteAt) (mc := 0) (ms := 0) (As := [.int y4]) (r := [.int (y3 * 10), .int 10000]) dX8_numberOf_21 mo8_byteAt mv8_byteAt lkRX8_56 rfl hZ_b0 (q := (RX8, TX8, 6)) rfl rfl rfl (Nat.le_of_ble_eq_true rfl) (by show _ + 1 ≤ d + _; omega) (Nat.le_refl _) (Nat.le_refl _) (pRt_mono ?_)
      refine k8_byteAt (d + 0) hW hZ_b0 hr3 ?_
      intro _
      show Ok g _ Qx 24 [(0, .ref b0), (2, .int y2), (3, .int y3), (4, .int y4)] [.int r2, .int (y3 * 10), .int 10000] (Z, I, L, O)
      refine ok_iadd dX8_numberOf_24 ?_
      refine ok_bipush (v := 48) dX8_numberOf_25 (by decide) ?_
      refine ok_isub dX8_numberOf_27 ?_
      obtain ⟨r4, hr5, h⟩ := bd h
      refine ok_callS (d := ((d + 0) + 2)) (mt := mJ9_min_7cf53) (mc := 0) (ms := 0) (As := [.int 10000, .int (((y3 * 10) + r2) - 48)]) (r := []) dX8_numberOf_28 moJ9_min_7cf53 mvJ9_min_7cf53 lkRX8_67 rfl rfl (Nat.le_of_ble_eq_true rfl) (by show _ + 1 ≤ d + _; omega) (Nat.le_refl _) (Nat.le_refl _) (pRt_mono ?_)
      refine kJ9_min_7cf53 (d + 0) hW  hr5 ?_
      intro _
      show Ok g _ Qx 31 [(0, .ref b0), (2, .int y2), (3, .int y3), (4, .int y4)] [.int r4] (Z, I, L, O)
      refine ok_istore_n (l' := [(3, .int r4), (0, .ref b0), (2, .int y2), (4, .int y4)]) dX8_numberOf_31 rfl (Nat.le_of_ble_eq_true rfl) rfl ?_
      refine ok_iinc (u := (y4 + 1)) (l' := [(4, .int (y4 + 1)), (3, .int r4), (0, .ref b0), (2, .int y2)]) dX8_numberOf_32 3 rfl rfl (Nat.le_of_ble_eq_true rfl) rfl ?_
      refine ok_goto (t := 5) dX8_numberOf_35 (by decide) ?_
      refine ok_sub [2, 3, 1, 0] rfl ?_
      exact ih b0 y2 r4 (y4 + 1) hZ_b0 h
def f8_numberOf (n : Nat) (I : (Nat → Nat → Int32)) (O : (Nat → Nat → Option Nat)) (a0 : Nat) (x1 : Int32) (x2 : Int32) : Option (Int32) := f8_numberOf_c5 n I O n a0 x2 (0 : Int32) x1
set_option maxHeartbeats 4000000 in
set_option maxRecDepth 20000 in
theorem o8_numberOf {g : pG} {Qx : Option Value → pW → Prop} {Z : pZ} {I : (Nat → Nat → Int32)} {L : (Nat → Nat → Int64)} {O : (Nat → Nat → Option Nat)} {n : Nat} {a0 : Nat} {x1 : Int32} {x2 : Int32} {res : Int32} (d : Nat) (hW : WT Z O) (hZ0 : Z[a0]? = some (8, 6)) (h : f8_numberOf n I O a0 x1 x2 = some res) (hQ : Qx (some (.int res)) (Z, I, L, O)) : Ok g (d + 3, RX8, cX8_numberOf, 5, false, 0, 0, Z.length, pSl Z) Qx 0 [(0, .ref a0), (1, .int x1), (2, .int x2)] [] (Z, I, L, O) := by
  unfold f8_numberOf at h
  refine ok_iconst (v := 0) dX8_numberOf_0 (by decide) ?_
  refine ok_istore_n (l' := [(3, .int 0), (0, .ref a0), (1, .int x1), (2, .int x2)]) dX8_numberOf_1 rfl (Nat.le_of_ble_eq_true rfl) rfl ?_
  refine ok_iload_n dX8_numberOf_2 2 rfl ?_
  refine ok_istore (l' := [(4, .int x1), (3, .int 0), (0, .ref a0), (1, .int x1), (2, .int x2)]) dX8_numberOf_3 (Nat.le_of_ble_eq_true rfl) rfl ?_
  refine ok_sub [2, 4, 1, 0] rfl ?_
  exact o8_numberOf_c5 d hW hQ  n a0 x2 (0 : Int32) x1 hZ0 h
theorem k8_numberOf {g : pG} {Q : Option Value → pW → Prop} {Z : pZ} {I : (Nat → Nat → Int32)} {L : (Nat → Nat → Int64)} {O : (Nat → Nat → Option Nat)} {n : Nat} {a0 : Nat} {x1 : Int32} {x2 : Int32} {res : Int32} (d : Nat) (hW : WT Z O) (hZ0 : Z[a0]? = some (8, 6)) (h : f8_numberOf n I O a0 x1 x2 = some res) (hQ : Q (some (.int res)) (Z, I, L, O)) : CT g (d + 3) m8_numberOf 0 0 [.ref a0, .int x1, .int x2] (Z, I, L, O) Q :=
  ct_of_ok (mt := m8_numberOf) (ini := false) mo8_numberOf.2.2.2.2 (fun h => by cases h) (Nat.le_of_ble_eq_true rfl) (o8_numberOf d hW hZ0 h ⟨trivial, hQ, rfl, rfl⟩)
theorem dX8_wordEnd_0 : decode cX8_wordEnd 0 = .ok (.iload_n 1, 1) := by decide +kernel
theorem dX8_wordEnd_1 : decode cX8_wordEnd 1 = .ok (.istore_n 2, 1) := by decide +kernel
theorem dX8_wordEnd_2 : decode cX8_wordEnd 2 = .ok (.iload_n 2, 1) := by decide +kernel
theorem dX8_wordEnd_3 : decode cX8_wordEnd 3 = .ok (.aload_n 0, 1) := by decide +kernel
theorem dX8_wordEnd_4 : decode cX8_wordEnd 4 = .ok (.getfield 24, 3) := by decide +kernel
theorem dX8_wordEnd_7 : decode cX8_wordEnd 7 = .ok (.if_icmp .ge 20, 3) := by decide +kernel
theorem dX8_wordEnd_10 : decode cX8_wordEnd 10 = .ok (.aload_n 0, 1) := by decide +kernel
theorem dX8_wordEnd_11 : decode cX8_wordEnd 11 = .ok (.iload_n 2, 1) := by decide +kernel
theorem dX8_wordEnd_12 : decode cX8_wordEnd 12 = .ok (.invokevirtual 56, 3) := by decide +kernel
theorem dX8_wordEnd_15 : decode cX8_wordEnd 15 = .ok (.invokestatic 31, 3) := by decide +kernel
theorem dX8_wordEnd_18 : decode cX8_wordEnd 18 = .ok (.ifCond .eq 9, 3) := by decide +kernel
theorem dX8_wordEnd_21 : decode cX8_wordEnd 21 = .ok (.iinc 2 1, 3) := by decide +kernel
theorem dX8_wordEnd_24 : decode cX8_wordEnd 24 = .ok (.goto (-22), 3) := by decide +kernel
theorem dX8_wordEnd_27 : decode cX8_wordEnd 27 = .ok (.iload_n 2, 1) := by decide +kernel
theorem dX8_wordEnd_28 : decode cX8_wordEnd 28 = .ok (.ireturn, 1) := by decide +kernel
def m8_wordEnd : pMT := (yX8_wordEnd, cX8_wordEnd, 3, some .int)
theorem mo8_wordEnd : mOK m8_wordEnd 1 := ⟨tb_i 448 (by decide +kernel), wi_RX8, ⟨wn_RX8.1, wn_RX8.2, by decide +kernel⟩, by decide, plainFor_of_name wp_RX8⟩
theorem mv8_wordEnd : mV m8_wordEnd := ⟨tb_i 447 (by decide +kernel), tb_p 0 (by decide +kernel)⟩
def f8_wordEnd_c2 (n : Nat) (I : (Nat → Nat → Int32)) (O : (Nat → Nat → Option Nat)) : Nat → Nat → Int32 → Option (Int32)
  | 0, _, _ => none
  | m + 1, b0, y2 => (if (I b0 4) ≤ y2 then some (y2) else (f8_byteAt I O b0 y2).bind fun r2 => (f8_isLetter r2).bind fun r4 => (if r4 = 0 then some (y2) else f8_wordEnd_c2 n I O m b0 (y2 + 1)))
set_option maxHeartbeats 4000000 in
set_option maxRecDepth 20000 in
theorem o8_wordEnd_c2 {g : pG} {Qx : Option Value → pW → Prop} {Z : pZ} {I : (Nat → Nat → Int32)} {L : (Nat → Nat → Int64)} {O : (Nat → Nat → Option Nat)} {n : Nat} {res : Int32} (d : Nat) (hW : WT Z O) (hQ : Qx (some (.int res)) (Z, I, L, O)) : ∀ (m : Nat) (b0 : Nat) (y2 : Int32), (Z[b0]? = some (8, 6)) → f8_wordEnd_c2 n I O m b0 y2 = some res → Ok g (d + 3, RX8, cX8_wordEnd, 3, false, 0, 0, Z.length, pSl Z) Qx 2 [(0, .ref b0), (2, .int y2)] [] (Z, I, L, O) := by
  intro m
  induction m with
  | zero => intro b0 y2 hZ_b0 h; rw [f8_wordEnd_c2] at h; cases h
  | succ m ih =>
    intro b0 y2 hZ_b0 h
    rw [f8_wordEnd_c2] at h
    refine ok_iload_n dX8_wordEnd_2 1 rfl ?_
    refine ok_aload_n dX8_wordEnd_3 0 rfl ?_
    refine ok_getI (ci := 8) (k := 4) dX8_wordEnd_4 flRX8_24 rfl hZ_b0 (by decide) ?_
    refine ok_icmp_ge (t := 27) dX8_wordEnd_7 (by decide) (fun hc1 => ?_) (fun hc1 => ?_)
    · have h := (if_pos hc1).symm.trans h
      refine ok_iload_n dX8_wordEnd_27 1 rfl ?_
      cases h
      exact ok_iret dX8_wordEnd_28 hQ
    · have h := (if_neg hc1).symm.trans h
      refine ok_aload_n dX8_wordEnd_10 0 rfl ?_
      refine ok_iload_n dX8_wordEnd_11 1 rfl ?_
      obtain ⟨r2, hr3, h⟩ := bd h
      refine ok_callV (d := ((d + 0) + 2)) (mt := m8_byteAt) (mc := 0) (ms := 0) (As := [.int y2]) (r := []) dX8_wordEnd_12 mo8_byteAt mv8_byteAt lkRX8_56 rfl hZ_b0 (q := (RX8, TX8, 6)) rfl rfl rfl (Nat.le_of_ble_eq_true rfl) (by show _ + 1 ≤ d + _; omega) (Nat.le_refl _) (Nat.le_refl _) (pRt_mono ?_)
      refine k8_byteAt (d + 0) hW hZ_b0 hr3 ?_
      intro _
      show Ok g _ Qx 15 [(0, .ref b0), (2, .int y2)] [.int r2] (Z, I, L, O)
      obtain ⟨r4, hr5, h⟩ := bd h
      refine ok_callS (d := ((d + 0) + 2)) (mt := m8_isLetter) (mc := 0) (ms := 0) (As := [.int r2]) (r := []) dX8_wordEnd_15 mo8_isLetter mv8_isLetter lkRX8_31 rfl rfl (Nat.le_of_ble_eq_true rfl) (by show _ + 1 ≤ d + _; omega) (Nat.le_refl _) (Nat.le_refl _) (pRt_mono ?_)
      refine k8_isLetter (d + 0) hW  hr5 ?_
      intro hbr4
      show Ok g _ Qx 18 [(0, .ref b0), (2, .int y2)] [.int r4] (Z, I, L, O)
      refine ok_if_eq (t := 27) dX8_wordEnd_18 (by decide) (fun hc6 => ?_) (fun hc6 => ?_)
      · have h := (if_pos hc6).symm.trans h
        refine ok_iload_n dX8_wordEnd_27 1 rfl ?_
        cases h
        exact ok_iret dX8_wordEnd_28 hQ
      · have h := (if_neg hc6).symm.trans h
        refine ok_iinc (u := (y2 + 1)) (l' := [(2, .int (y2 + 1)), (0, .ref b0)]) dX8_wordEnd_21 1 rfl rfl (Nat.le_of_ble_eq_true rfl) rfl ?_
        refine ok_goto (t := 2) dX8_wordEnd_24 (by decide) ?_
        refine ok_sub [1, 0] rfl ?_
        exact ih b0 (y2 + 1) hZ_b0 h
def f8_wordEnd (n : Nat) (I : (Nat → Nat → Int32)) (O : (Nat → Nat → Option Nat)) (a0 : Nat) (x1 : Int32) : Option (Int32) := f8_wordEnd_c2 n I O n a0 x1
set_option maxHeartbeats 4000000 in
set_option maxRecDepth 20000 in
theorem o8_wordEnd {g : pG} {Qx : Option Value → pW → Prop} {Z : pZ} {I : (Nat → Nat → Int32)} {L : (Nat → Nat → Int64)} {O : (Nat → Nat → Option Nat)} {n : Nat} {a0 : Nat} {x1 : Int32} {res : Int32} (d : Nat) (hW : WT Z O) (hZ0 : Z[a0]? = some (8, 6)) (h : f8_wordEnd n I O a0 x1 = some res) (hQ : Qx (some (.int res)) (Z, I, L, O)) : Ok g (d + 3, RX8, cX8_wordEnd, 3, false, 0, 0, Z.length, pSl Z) Qx 0 [(0, .ref a0), (1, .int x1)] [] (Z, I, L, O) := by
  unfold f8_wordEnd at h
  refine ok_iload_n dX8_wordEnd_0 1 rfl ?_
  refine ok_istore_n (l' := [(2, .int x1), (0, .ref a0), (1, .int x1)]) dX8_wordEnd_1 rfl (Nat.le_of_ble_eq_true rfl) rfl ?_
  refine ok_sub [1, 0] rfl ?_
  exact o8_wordEnd_c2 d hW hQ  n a0 x1 hZ0 h
theorem k8_wordEnd {g : pG} {Q : Option Value → pW → Prop} {Z : pZ} {I : (Nat → Nat → Int32)} {L : (Nat → Nat → Int64)} {O : (Nat → Nat → Option Nat)} {n : Nat} {a0 : Nat} {x1 : Int32} {res : Int32} (d : Nat) (hW : WT Z O) (hZ0 : Z[a0]? = some (8, 6)) (h : f8_wordEnd n I O a0 x1 = some res) (hQ : Q (some (.int res)) (Z, I, L, O)) : CT g (d + 3) m8_wordEnd 0 0 [.ref a0, .int x1] (Z, I, L, O) Q :=
  ct_of_ok (mt := m8_wordEnd) (ini := false) mo8_wordEnd.2.2.2.2 (fun h => by cases h) (Nat.le_of_ble_eq_true rfl) (o8_wordEnd d hW hZ0 h ⟨trivial, hQ, rfl, rfl⟩)
theorem dX8_wordNumber_0 : decode cX8_wordNumber 0 = .ok (.iconst 0, 1) := by decide +kernel
theorem dX8_wordNumber_1 : decode cX8_wordNumber 1 = .ok (.istore_n 3, 1) := by decide +kernel
theorem dX8_wordNumber_2 : decode cX8_wordNumber 2 = .ok (.iload_n 1, 1) := by decide +kernel
theorem dX8_wordNumber_3 : decode cX8_wordNumber 3 = .ok (.istore 4, 2) := by decide +kernel
theorem dX8_wordNumber_5 : decode cX8_wordNumber 5 = .ok (.iconst 1, 1) := by decide +kernel
theorem dX8_wordNumber_6 : decode cX8_wordNumber 6 = .ok (.istore 5, 2) := by decide +kernel
theorem dX8_wordNumber_8 : decode cX8_wordNumber 8 = .ok (.iconst 0, 1) := by decide +kernel
theorem dX8_wordNumber_9 : decode cX8_wordNumber 9 = .ok (.istore 6, 2) := by decide +kernel
theorem dX8_wordNumber_11 : decode cX8_wordNumber 11 = .ok (.iload 6, 2) := by decide +kernel
theorem dX8_wordNumber_13 : decode cX8_wordNumber 13 = .ok (.ldc 70, 2) := by decide +kernel
theorem dX8_wordNumber_15 : decode cX8_wordNumber 15 = .ok (.invokevirtual 72, 3) := by decide +kernel
theorem dX8_wordNumber_18 : decode cX8_wordNumber 18 = .ok (.if_icmp .gt 97, 3) := by decide +kernel
theorem dX8_wordNumber_21 : decode cX8_wordNumber 21 = .ok (.iload 6, 2) := by decide +kernel
theorem dX8_wordNumber_23 : decode cX8_wordNumber 23 = .ok (.ldc 70, 2) := by decide +kernel
theorem dX8_wordNumber_25 : decode cX8_wordNumber 25 = .ok (.invokevirtual 72, 3) := by decide +kernel
theorem dX8_wordNumber_28 : decode cX8_wordNumber 28 = .ok (.if_icmp .ge 13, 3) := by decide +kernel
theorem dX8_wordNumber_31 : decode cX8_wordNumber 31 = .ok (.ldc 70, 2) := by decide +kernel
theorem dX8_wordNumber_33 : decode cX8_wordNumber 33 = .ok (.iload 6, 2) := by decide +kernel
theorem dX8_wordNumber_35 : decode cX8_wordNumber 35 = .ok (.invokevirtual 78, 3) := by decide +kernel
theorem dX8_wordNumber_38 : decode cX8_wordNumber 38 = .ok (.goto 5, 3) := by decide +kernel
theorem dX8_wordNumber_41 : decode cX8_wordNumber 41 = .ok (.bipush 32, 2) := by decide +kernel
theorem dX8_wordNumber_43 : decode cX8_wordNumber 43 = .ok (.istore 7, 2) := by decide +kernel
theorem dX8_wordNumber_45 : decode cX8_wordNumber 45 = .ok (.iload 7, 2) := by decide +kernel
theorem dX8_wordNumber_47 : decode cX8_wordNumber 47 = .ok (.bipush 32, 2) := by decide +kernel
theorem dX8_wordNumber_49 : decode cX8_wordNumber 49 = .ok (.if_icmp .ne 28, 3) := by decide +kernel
theorem dX8_wordNumber_52 : decode cX8_wordNumber 52 = .ok (.iload 5, 2) := by decide +kernel
theorem dX8_wordNumber_54 : decode cX8_wordNumber 54 = .ok (.ifCond .eq 11, 3) := by decide +kernel
theorem dX8_wordNumber_57 : decode cX8_wordNumber 57 = .ok (.iload 4, 2) := by decide +kernel
theorem dX8_wordNumber_59 : decode cX8_wordNumber 59 = .ok (.iload_n 2, 1) := by decide +kernel
theorem dX8_wordNumber_60 : decode cX8_wordNumber 60 = .ok (.if_icmp .ne 5, 3) := by decide +kernel
theorem dX8_wordNumber_63 : decode cX8_wordNumber 63 = .ok (.iload_n 3, 1) := by decide +kernel
theorem dX8_wordNumber_64 : decode cX8_wordNumber 64 = .ok (.ireturn, 1) := by decide +kernel
theorem dX8_wordNumber_65 : decode cX8_wordNumber 65 = .ok (.iinc 3 1, 3) := by decide +kernel
theorem dX8_wordNumber_68 : decode cX8_wordNumber 68 = .ok (.iload_n 1, 1) := by decide +kernel
theorem dX8_wordNumber_69 : decode cX8_wordNumber 69 = .ok (.istore 4, 2) := by decide +kernel
theorem dX8_wordNumber_71 : decode cX8_wordNumber 71 = .ok (.iconst 1, 1) := by decide +kernel
theorem dX8_wordNumber_72 : decode cX8_wordNumber 72 = .ok (.istore 5, 2) := by decide +kernel
theorem dX8_wordNumber_74 : decode cX8_wordNumber 74 = .ok (.goto 35, 3) := by decide +kernel
theorem dX8_wordNumber_77 : decode cX8_wordNumber 77 = .ok (.iload 5, 2) := by decide +kernel
theorem dX8_wordNumber_79 : decode cX8_wordNumber 79 = .ok (.ifCond .eq 24, 3) := by decide +kernel
theorem dX8_wordNumber_82 : decode cX8_wordNumber 82 = .ok (.iload 4, 2) := by decide +kernel
theorem dX8_wordNumber_84 : decode cX8_wordNumber 84 = .ok (.iload_n 2, 1) := by decide +kernel
theorem dX8_wordNumber_85 : decode cX8_wordNumber 85 = .ok (.if_icmp .ge 18, 3) := by decide +kernel
theorem dX8_wordNumber_88 : decode cX8_wordNumber 88 = .ok (.aload_n 0, 1) := by decide +kernel
theorem dX8_wordNumber_89 : decode cX8_wordNumber 89 = .ok (.iload 4, 2) := by decide +kernel
theorem dX8_wordNumber_91 : decode cX8_wordNumber 91 = .ok (.invokevirtual 56, 3) := by decide +kernel
theorem dX8_wordNumber_94 : decode cX8_wordNumber 94 = .ok (.iload 7, 2) := by decide +kernel
theorem dX8_wordNumber_96 : decode cX8_wordNumber 96 = .ok (.if_icmp .ne 7, 3) := by decide +kernel
theorem dX8_wordNumber_99 : decode cX8_wordNumber 99 = .ok (.iconst 1, 1) := by decide +kernel
theorem dX8_wordNumber_100 : decode cX8_wordNumber 100 = .ok (.goto 4, 3) := by decide +kernel
theorem dX8_wordNumber_103 : decode cX8_wordNumber 103 = .ok (.iconst 0, 1) := by decide +kernel
theorem dX8_wordNumber_104 : decode cX8_wordNumber 104 = .ok (.istore 5, 2) := by decide +kernel
theorem dX8_wordNumber_106 : decode cX8_wordNumber 106 = .ok (.iinc 4 1, 3) := by decide +kernel
theorem dX8_wordNumber_109 : decode cX8_wordNumber 109 = .ok (.iinc 6 1, 3) := by decide +kernel
theorem dX8_wordNumber_112 : decode cX8_wordNumber 112 = .ok (.goto (-101), 3) := by decide +kernel
theorem dX8_wordNumber_115 : decode cX8_wordNumber 115 = .ok (.bipush 26, 2) := by decide +kernel
theorem dX8_wordNumber_117 : decode cX8_wordNumber 117 = .ok (.ireturn, 1) := by decide +kernel
def m8_wordNumber : pMT := (yX8_wordNumber, cX8_wordNumber, 8, some .int)
theorem mo8_wordNumber : mOK m8_wordNumber 2 := ⟨tb_i 456 (by decide +kernel), wi_RX8, ⟨wn_RX8.1, wn_RX8.2, by decide +kernel⟩, by decide, plainFor_of_name wp_RX8⟩
theorem mv8_wordNumber : mV m8_wordNumber := ⟨tb_i 455 (by decide +kernel), tb_p 2 (by decide +kernel)⟩
def f8_wordNumber_c43 (n : Nat) (I : (Nat → Nat → Int32)) (O : (Nat → Nat → Option Nat)) (k11 : (Nat → Int32 → Int32 → Int32 → Int32 → Int32 → Int32 → Option (Int32))) (b0 : Nat) (y1 : Int32) (y2 : Int32) (y3 : Int32) (y4 : Int32) (y5 : Int32) (y6 : Int32) (t0 : Int32) : Option (Int32) := (if t0 = (32 : Int32) then (if y5 = 0 then k11 b0 y1 y2 (y3 + 1) y1 (1 : Int32) (y6 + 1) else (if y4 = y2 then some (y3) else k11 b0 y1 y2 (y3 + 1) y1 (1 : Int32) (y6 + 1))) else (if y5 = 0 then k11 b0 y1 y2 y3 (y4 + 1) (0 : Int32) (y6 + 1) else (if y2 ≤ y4 then k11 b0 y1 y2 y3 (y4 + 1) (0 : Int32) (y6 + 1) else (f8_byteAt I O b0 y4).bind fun r4 => (if r4 = t0 then k11 b0 y1 y2 y3 (y4 + 1) (1 : Int32) (y6 + 1) else k11 b0 y1 y2 y3 (y4 + 1) (0 : Int32) (y6 + 1)))))
set_option maxHeartbeats 4000000 in
set_option maxRecDepth 20000 in
theorem o8_wordNumber_c43 {g : pG} {Qx : Option Value → pW → Prop} {Z : pZ} {I : (Nat → Nat → Int32)} {L : (Nat → Nat → Int64)} {O : (Nat → Nat → Option Nat)} {n : Nat} {k11 : (Nat → Int32 → Int32 → Int32 → Int32 → Int32 → Int32 → Option (Int32))} {res : Int32} (d : Nat) (hW : WT Z O) (hStr : StrOK g) (hQ : Qx (some (.int res)) (Z, I, L, O)) (hk11 : ∀ (b0 : Nat) (y1 : Int32) (y2 : Int32) (y3 : Int32) (y4 : Int32) (y5 : Int32) (y6 : Int32), (Z[b0]? = some (8, 6)) → k11 b0 y1 y2 y3 y4 y5 y6 = some res → Ok g (d + 13, RX8, cX8_wordNumber, 8, false, 0, 0, Z.length, pSl Z) Qx 11 [(0, .ref b0), (1, .int y1), (2, .int y2), (3, .int y3), (4, .int y4), (5, .int y5), (6, .int y6)] [] (Z, I, L, O)) (b0 : Nat) (y1 : Int32) (y2 : Int32) (y3 : Int32) (y4 : Int32) (y5 : Int32) (y6 : Int32) (t0 : Int32) (hZ_b0 : Z[b0]? = some (8, 6)) (h : f8_wordNumber_c43 n I O k11 b0 y1 y2 y3 y4 y5 y6 t0 = some res) : Ok g (d + 13, RX8, cX8_wordNumber, 8, false, 0, 0, Z.length, pSl Z) Qx 43 [(0, .ref b0), (1, .int y1), (2, .int y2), (3, .int y3), (4, .int y4), (5, .int y5), (6, .int y6)] [.int t0] (Z, I, L, O) := by
  unfold f8_wordNumber_c43 at h
  refine ok_istore (l' := [(7, .int t0), (0, .ref b0), (1, .int y1), (2, .int y2), (3, .int y3), (4, .int y4), (5, .int y5), (6, .int y6)]) dX8_wordNumber_43 (Nat.le_of_ble_eq_true rfl) rfl ?_
  refine ok_iload dX8_wordNumber_45 0 rfl ?_
  refine ok_bipush (v := 32) dX8_wordNumber_47 (by decide) ?_
  refine ok_icmp_ne (t := 77) dX8_wordNumber_49 (by decide) (fun hc1 => ?_) (fun hc1 => ?_)
  · have h := (if_neg hc1).symm.trans h
    refine ok_iload dX8_wordNumber_77 6 rfl ?_
    refine ok_if_eq (t := 103) dX8_wordNumber_79 (by decide) (fun hc2 => ?_) (fun hc2 => ?_)
    · have h := (if_pos hc2).symm.trans h
      refine ok_iconst (v := 0) dX8_wordNumber_103 (by decide) ?_
      refine ok_istore (l' := [(5, .int 0), (7, .int t0), (0, .ref b0), (1, .int y1), (2, .int y2), (3, .int y3), (4, .int y4), (6, .int y6)]) dX8_wordNumber_104 (Nat.le_of_ble_eq_true rfl) rfl ?_
      refine ok_iinc (u := (y4 + 1)) (l' := [(4, .int (y4 + 1)), (5, .int 0), (7, .int t0), (0, .ref b0), (1, .int y1), (2, .int y2), (3, .int y3), (6, .int y6)]) dX8_wordNumber_106 6 rfl rfl (Nat.le_of_ble_eq_true rfl) rfl ?_
      refine ok_iinc (u := (y6 + 1)) (l' := [(6, .int (y6 + 1)), (4, .int (y4 + 1)), (5, .int 0), (7, .int t0), (0, .ref b0), (1, .int y1), (2, .int y2), (3, .int y3)]) dX8_wordNumber_109 7 rfl rfl (Nat.le_of_ble_eq_true rfl) rfl ?_
      refine ok_goto (t := 11) dX8_wordNumber_112 (by decide) ?_
      refine ok_sub [4, 5, 6, 7, 1, 2, 0] rfl ?_
      exact hk11 b0 y1 y2 y3 (y4 + 1) (0 : Int32) (y6 + 1) hZ_b0 h
    · have h := (if_neg hc2).symm.trans h
      refine ok_iload dX8_wordNumber_82 5 rfl ?_
      refine ok_iload_n dX8_wordNumber_84 3 rfl ?_
      refine ok_icmp_ge (t := 103) dX8_wordNumber_85 (by decide) (fun hc3 => ?_) (fun hc3 => ?_)
      · have h := (if_pos hc3).symm.trans h
        refine ok_iconst (v := 0) dX8_wordNumber_103 (by decide) ?_
        refine ok_istore (l' := [(5, .int 0), (7, .int t0), (0, .ref b0), (1, .int y1), (2, .int y2), (3, .int y3), (4, .int y4), (6, .int y6)]) dX8_wordNumber_104 (Nat.le_of_ble_eq_true rfl) rfl ?_
        refine ok_iinc (u := (y4 + 1)) (l' := [(4, .int (y4 + 1)), (5, .int 0), (7, .int t0), (0, .ref b0), (1, .int y1), (2, .int y2), (3, .int y3), (6, .int y6)]) dX8_wordNumber_106 6 rfl rfl (Nat.le_of_ble_eq_true rfl) rfl ?_
        refine ok_iinc (u := (y6 + 1)) (l' := [(6, .int (y6 + 1)), (4, .int (y4 + 1)), (5, .int 0), (7, .int t0), (0, .ref b0), (1, .int y1), (2, .int y2), (3, .int y3)]) dX8_wordNumber_109 7 rfl rfl (Nat.le_of_ble_eq_true rfl) rfl ?_
        refine ok_goto (t := 11) dX8_wordNumber_112 (by decide) ?_
        refine ok_sub [4, 5, 6, 7, 1, 2, 0] rfl ?_
        exact hk11 b0 y1 y2 y3 (y4 + 1) (0 : Int32) (y6 + 1) hZ_b0 h
      · have h := (if_neg hc3).symm.trans h
        refine ok_aload_n dX8_wordNumber_88 1 rfl ?_
        refine ok_iload dX8_wordNumber_89 5 rfl ?_
        obtain ⟨r4, hr5, h⟩ := bd h
        refine ok_callV (d := ((d + 10) + 2)) (mt := m8_byteAt) (mc := 0) (ms := 0) (As := [.int y4]) (r := []) dX8_wordNumber_91 mo8_byteAt mv8_byteAt lkRX8_56 rfl hZ_b0 (q := (RX8, TX8, 6)) rfl rfl rfl (Nat.le_of_ble_eq_true rfl) (by show _ + 1 ≤ d + _; omega) (Nat.le_refl _) (Nat.le_refl _) (pRt_mono ?_)
        refine k8_byteAt (d + 10) hW hZ_b0 hr5 ?_
        intro _
        show Ok g _ Qx 94 [(7, .int t0), (0, .ref b0), (1, .int y1), (2, .int y2), (3, .int y3), (4, .int y4), (5, .int y5), (6, .int y6)] [.int r4] (Z, I, L, O)
        refine ok_iload dX8_wordNumber_94 0 rfl ?_
        refine ok_icmp_ne (t := 103) dX8_wordNumber_96 (by decide) (fun hc6 => ?_) (fun hc6 => ?_)
        · have h := (if_neg hc6).symm.trans h
          refine ok_iconst (v := 0) dX8_wordNumber_103 (by decide) ?_
          refine ok_istore (l' := [(5, .int 0), (7, .int t0), (0, .ref b0), (1, .int y1), (2, .int y2), (3, .int y3), (4, .int y4), (6, .int y6)]) dX8_wordNumber_104 (Nat.le_of_ble_eq_true rfl) rfl ?_
          refine ok_iinc (u := (y4 + 1)) (l' := [(4, .int (y4 + 1)), (5, .int 0), (7, .int t0), (0, .ref b0), (1, .int y1), (2, .int y2), (3, .int y3), (6, .int y6)]) dX8_wordNumber_106 6 rfl rfl (Nat.le_of_ble_eq_true rfl) rfl ?_
          refine ok_iinc (u := (y6 + 1)) (l' := [(6, .int (y6 + 1)), (4, .int (y4 + 1)), (5, .int 0), (7, .int t0), (0, .ref b0), (1, .int y1), (2, .int y2), (3, .int y3)]) dX8_wordNumber_109 7 rfl rfl (Nat.le_of_ble_eq_true rfl) rfl ?_
          refine ok_goto (t := 11) dX8_wordNumber_112 (by decide) ?_
          refine ok_sub [4, 5, 6, 7, 1, 2, 0] rfl ?_
          exact hk11 b0 y1 y2 y3 (y4 + 1) (0 : Int32) (y6 + 1) hZ_b0 h
        · have h := (if_pos hc6).symm.trans h
          refine ok_iconst (v := 1) dX8_wordNumber_99 (by decide) ?_
          refine ok_goto (t := 104) dX8_wordNumber_100 (by decide) ?_
          refine ok_istore (l' := [(5, .int 1), (7, .int t0), (0, .ref b0), (1, .int y1), (2, .int y2), (3, .int y3), (4, .int y4), (6, .int y6)]) dX8_wordNumber_104 (Nat.le_of_ble_eq_true rfl) rfl ?_
          refine ok_iinc (u := (y4 + 1)) (l' := [(4, .int (y4 + 1)), (5, .int 1), (7, .int t0), (0, .ref b0), (1, .int y1), (2, .int y2), (3, .int y3), (6, .int y6)]) dX8_wordNumber_106 6 rfl rfl (Nat.le_of_ble_eq_true rfl) rfl ?_
          refine ok_iinc (u := (y6 + 1)) (l' := [(6, .int (y6 + 1)), (4, .int (y4 + 1)), (5, .int 1), (7, .int t0), (0, .ref b0), (1, .int y1), (2, .int y2), (3, .int y3)]) dX8_wordNumber_109 7 rfl rfl (Nat.le_of_ble_eq_true rfl) rfl ?_
          refine ok_goto (t := 11) dX8_wordNumber_112 (by decide) ?_
          refine ok_sub [4, 5, 6, 7, 1, 2, 0] rfl ?_
          exact hk11 b0 y1 y2 y3 (y4 + 1) (1 : Int32) (y6 + 1) hZ_b0 h
  · have h := (if_pos hc1).symm.trans h
    refine ok_iload dX8_wordNumber_52 6 rfl ?_
    refine ok_if_eq (t := 65) dX8_wordNumber_54 (by decide) (fun hc7 => ?_) (fun hc7 => ?_)
    · have h := (if_pos hc7).symm.trans h
      refine ok_iinc (u := (y3 + 1)) (l' := [(3, .int (y3 + 1)), (7, .int t0), (0, .ref b0), (1, .int y1), (2, .int y2), (4, .int y4), (5, .int y5), (6, .int y6)]) dX8_wordNumber_65 4 rfl rfl (Nat.le_of_ble_eq_true rfl) rfl ?_
      refine ok_iload_n dX8_wordNumber_68 3 rfl ?_
      refine ok_istore (l' := [(4, .int y1), (3, .int (y3 + 1)), (7, .int t0), (0, .ref b0), (1, .int y1), (2, .int y2), (5, .int y5), (6, .int y6)]) dX8_wordNumber_69 (Nat.le_of_ble_eq_true rfl) rfl ?_
      refine ok_iconst (v := 1) dX8_wordNumber_71 (by decide) ?_
      refine ok_istore (l' := [(5, .int 1), (4, .int y1), (3, .int (y3 + 1)), (7, .int t0), (0, .ref b0), (1, .int y1), (2, .int y2), (6, .int y6)]) dX8_wordNumber_72 (Nat.le_of_ble_eq_true rfl) rfl ?_
      refine ok_goto (t := 109) dX8_wordNumber_74 (by decide) ?_
      refine ok_iinc (u := (y6 + 1)) (l' := [(6, .int (y6 + 1)), (5, .int 1), (4, .int y1), (3, .int (y3 + 1)), (7, .int t0), (0, .ref b0), (1, .int y1), (2, .int y2)]) dX8_wordNumber_109 7 rfl rfl (Nat.le_of_ble_eq_true rfl) rfl ?_
      refine ok_goto (t := 11) dX8_wordNumber_112 (by decide) ?_
      refine ok_sub [5, 6, 7, 3, 2, 1, 0] rfl ?_
      exact hk11 b0 y1 y2 (y3 + 1) y1 (1 : Int32) (y6 + 1) hZ_b0 h
    · have h := (if_neg hc7).symm.trans h
      refine ok_iload dX8_wordNumber_57 5 rfl ?_
      refine ok_iload_n dX8_wordNumber_59 3 rfl ?_
      refine ok_icmp_ne (t := 65) dX8_wordNumber_60 (by decide) (fun hc8 => ?_) (fun hc8 => ?_)
      · have h := (if_neg hc8).symm.trans h
        refine ok_iinc (u := (y3 + 1)) (l' := [(3, .int (y3 + 1)), (7, .int t0), (0, .ref b0), (1, .int y1), (2, .int y2), (4, .int y4), (5, .int y5), (6, .int y6)]) dX8_wordNumber_65 4 rfl rfl (Nat.le_of_ble_eq_true rfl) rfl ?_
        refine ok_iload_n dX8_wordNumber_68 3 rfl ?_
        refine ok_istore (l' := [(4, .int y1), (3, .int (y3 + 1)), (7, .int t0), (0, .ref b0), (1, .int y1), (2, .int y2), (5, .int y5), (6, .int y6)]) dX8_wordNumber_69 (Nat.le_of_ble_eq_true rfl) rfl ?_
        refine ok_iconst (v := 1) dX8_wordNumber_71 (by decide) ?_
        refine ok_istore (l' := [(5, .int 1), (4, .int y1), (3, .int (y3 + 1)), (7, .int t0), (0, .ref b0), (1, .int y1), (2, .int y2), (6, .int y6)]) dX8_wordNumber_72 (Nat.le_of_ble_eq_true rfl) rfl ?_
        refine ok_goto (t := 109) dX8_wordNumber_74 (by decide) ?_
        refine ok_iinc (u := (y6 + 1)) (l' := [(6, .int (y6 + 1)), (5, .int 1), (4, .int y1), (3, .int (y3 + 1)), (7, .int t0), (0, .ref b0), (1, .int y1), (2, .int y2)]) dX8_wordNumber_109 7 rfl rfl (Nat.le_of_ble_eq_true rfl) rfl ?_
        refine ok_goto (t := 11) dX8_wordNumber_112 (by decide) ?_
        refine ok_sub [5, 6, 7, 3, 2, 1, 0] rfl ?_
        exact hk11 b0 y1 y2 (y3 + 1) y1 (1 : Int32) (y6 + 1) hZ_b0 h
      · have h := (if_pos hc8).symm.trans h
        refine ok_iload_n dX8_wordNumber_63 4 rfl ?_
        cases h
        exact ok_iret dX8_wordNumber_64 hQ
def f8_wordNumber_c11 (n : Nat) (I : (Nat → Nat → Int32)) (O : (Nat → Nat → Option Nat)) : Nat → Nat → Int32 → Int32 → Int32 → Int32 → Int32 → Int32 → Option (Int32)
  | 0, _, _, _, _, _, _, _ => none
  | m + 1, b0, y1, y2, y3, y4, y5, y6 => (if (129 : Int32) < y6 then some ((26 : Int32)) else (if (129 : Int32) ≤ y6 then f8_wordNumber_c43 n I O (f8_wordNumber_c11 n I O m) b0 y1 y2 y3 y4 y5 y6 (32 : Int32) else (if y6 < 0 ∨ 129 ≤ y6.toNatClampNeg then none else f8_wordNumber_c43 n I O (f8_wordNumber_c11 n I O m) b0 y1 y2 y3 y4 y5 y6 (wch y6.toNatClampNeg))))
set_option maxHeartbeats 4000000 in
set_option maxRecDepth 20000 in
theorem o8_wordNumber_c11 {g : pG} {Qx : Option Value → pW → Prop} {Z : pZ} {I : (Nat → Nat → Int32)} {L : (Nat → Nat → Int64)} {O : (Nat → Nat → Option Nat)} {n : Nat} {res : Int32} (d : Nat) (hW : WT Z O) (hStr : StrOK g) (hQ : Qx (some (.int res)) (Z, I, L, O)) : ∀ (m : Nat) (b0 : Nat) (y1 : Int32) (y2 : Int32) (y3 : Int32) (y4 : Int32) (y5 : Int32) (y6 : Int32), (Z[b0]? = some (8, 6)) → f8_wordNumber_c11 n I O m b0 y1 y2 y3 y4 y5 y6 = some res → Ok g (d + 13, RX8, cX8_wordNumber, 8, false, 0, 0, Z.length, pSl Z) Qx 11 [(0, .ref b0), (1, .int y1), (2, .int y2), (3, .int y3), (4, .int y4), (5, .int y5), (6, .int y6)] [] (Z, I, L, O) := by
  intro m
  induction m with
  | zero => intro b0 y1 y2 y3 y4 y5 y6 hZ_b0 h; rw [f8_wordNumber_c11] at h; cases h
  | succ m ih =>
    intro b0 y1 y2 y3 y4 y5 y6 hZ_b0 h
    rw [f8_wordNumber_c11] at h
    refine ok_iload dX8_wordNumber_11 6 rfl ?_
    refine ok_ldcS hStr dX8_wordNumber_13 rfl ?_
    refine ok_strLen hStr dX8_wordNumber_15 lkRX8_72 (by show _ ≤ d + _; omega) (Nat.le_of_ble_eq_true rfl) (Nat.le_refl _) (Nat.le_refl _) ?_
    refine ok_icmp_gt (t := 115) dX8_wordNumber_18 (by decide) (fun hc1 => ?_) (fun hc1 => ?_)
    · have h := (if_pos hc1).symm.trans h
      refine ok_bipush (v := 26) dX8_wordNumber_115 (by decide) ?_
      cases h
      exact ok_iret dX8_wordNumber_117 hQ
    · have h := (if_neg hc1).symm.trans h
      refine ok_iload dX8_wordNumber_21 6 rfl ?_
      refine ok_ldcS hStr dX8_wordNumber_23 rfl ?_
      refine ok_strLen hStr dX8_wordNumber_25 lkRX8_72 (by show _ ≤ d + _; omega) (Nat.le_of_ble_eq_true rfl) (Nat.le_refl _) (Nat.le_refl _) ?_
      refine ok_icmp_ge (t := 41) dX8_wordNumber_28 (by decide) (fun hc2 => ?_) (fun hc2 => ?_)
      · have h := (if_pos hc2).symm.trans h
        refine ok_bipush (v := 32) dX8_wordNumber_41 (by decide) ?_
        refine ok_sub [0, 1, 2, 3, 4, 5, 6] rfl ?_
        exact o8_wordNumber_c43 d hW hStr hQ ih b0 y1 y2 y3 y4 y5 y6 (32 : Int32) hZ_b0 h
      · have h := (if_neg hc2).symm.trans h
        refine ok_ldcS hStr dX8_wordNumber_31 rfl ?_
        refine ok_iload dX8_wordNumber_33 6 rfl ?_
        obtain ⟨hg3, h⟩ := gd h
        refine ok_strAt hStr dX8_wordNumber_35 lkRX8_78 (by show _ ≤ d + _; omega) (Nat.le_of_ble_eq_true rfl) (Nat.le_refl _) (Nat.le_refl _) hg3 ?_
        refine ok_goto (t := 43) dX8_wordNumber_38 (by decide) ?_
        refine ok_sub [0, 1, 2, 3, 4, 5, 6] rfl ?_
        exact o8_wordNumber_c43 d hW hStr hQ ih b0 y1 y2 y3 y4 y5 y6 (wch y6.toNatClampNeg) hZ_b0 h
def f8_wordNumber (n : Nat) (I : (Nat → Nat → Int32)) (O : (Nat → Nat → Option Nat)) (a0 : Nat) (x1 : Int32) (x2 : Int32) : Option (Int32) := f8_wordNumber_c11 n I O n a0 x1 x2 (0 : Int32) x1 (1 : Int32) (0 : Int32)
set_option maxHeartbeats 4000000 in
set_option maxRecDepth 20000 in
theorem o8_wordNumber {g : pG} {Qx : Option Value → pW → Prop} {Z : pZ} {I : (Nat → Nat → Int32)} {L : (Nat → Nat → Int64)} {O : (Nat → Nat → Option Nat)} {n : Nat} {a0 : Nat} {x1 : Int32} {x2 : Int32} {res : Int32} (d : Nat) (hW : WT Z O) (hStr : StrOK g) (hZ0 : Z[a0]? = some (8, 6)) (h : f8_wordNumber n I O a0 x1 x2 = some res) (hQ : Qx (some (.int res)) (Z, I, L, O)) : Ok g (d + 13, RX8, cX8_wordNumber, 8, false, 0, 0, Z.length, pSl Z) Qx 0 [(0, .ref a0), (1, .int x1), (2, .int x2)] [] (Z, I, L, O) := by
  unfold f8_wordNumber at h
  refine ok_iconst (v := 0) dX8_wordNumber_0 (by decide) ?_
  refine ok_istore_n (l' := [(3, .int 0), (0, .ref a0), (1, .int x1), (2, .int x2)]) dX8_wordNumber_1 rfl (Nat.le_of_ble_eq_true rfl) rfl ?_
  refine ok_iload_n dX8_wordNumber_2 2 rfl ?_
  refine ok_istore (l' := [(4, .int x1), (3, .int 0), (0, .ref a0), (1, .int x1), (2, .int x2)]) dX8_wordNumber_3 (Nat.le_of_ble_eq_true rfl) rfl ?_
  refine ok_iconst (v := 1) dX8_wordNumber_5 (by decide) ?_
  refine ok_istore (l' := [(5, .int 1), (4, .int x1), (3, .int 0), (0, .ref a0), (1, .int x1), (2, .int x2)]) dX8_wordNumber_6 (Nat.le_of_ble_eq_true rfl) rfl ?_
  refine ok_iconst (v := 0) dX8_wordNumber_8 (by decide) ?_
  refine ok_istore (l' := [(6, .int 0), (5, .int 1), (4, .int x1), (3, .int 0), (0, .ref a0), (1, .int x1), (2, .int x2)]) dX8_wordNumber_9 (Nat.le_of_ble_eq_true rfl) rfl ?_
  refine ok_sub [4, 5, 6, 3, 2, 1, 0] rfl ?_
  exact o8_wordNumber_c11 d hW hStr hQ  n a0 x1 x2 (0 : Int32) x1 (1 : Int32) (0 : Int32) hZ0 h
theorem k8_wordNumber {g : pG} {Q : Option Value → pW → Prop} {Z : pZ} {I : (Nat → Nat → Int32)} {L : (Nat → Nat → Int64)} {O : (Nat → Nat → Option Nat)} {n : Nat} {a0 : Nat} {x1 : Int32} {x2 : Int32} {res : Int32} (d : Nat) (hW : WT Z O) (hStr : StrOK g) (hZ0 : Z[a0]? = some (8, 6)) (h : f8_wordNumber n I O a0 x1 x2 = some res) (hQ : Q (some (.int res)) (Z, I, L, O)) : CT g (d + 13) m8_wordNumber 0 0 [.ref a0, .int x1, .int x2] (Z, I, L, O) Q :=
  ct_of_ok (mt := m8_wordNumber) (ini := false) mo8_wordNumber.2.2.2.2 (fun h => by cases h) (Nat.le_of_ble_eq_true rfl) (o8_wordNumber d hW hStr hZ0 h ⟨trivial, hQ, rfl, rfl⟩)
theorem dX8_cut_0 : decode cX8_cut 0 = .ok (.aload_n 0, 1) := by decide +kernel
theorem dX8_cut_1 : decode cX8_cut 1 = .ok (.iconst 0, 1) := by decide +kernel
theorem dX8_cut_2 : decode cX8_cut 2 = .ok (.putfield 28, 3) := by decide +kernel
theorem dX8_cut_5 : decode cX8_cut 5 = .ok (.iconst 0, 1) := by decide +kernel
theorem dX8_cut_6 : decode cX8_cut 6 = .ok (.istore_n 1, 1) := by decide +kernel
theorem dX8_cut_7 : decode cX8_cut 7 = .ok (.iconst 0, 1) := by decide +kernel
theorem dX8_cut_8 : decode cX8_cut 8 = .ok (.istore_n 2, 1) := by decide +kernel
theorem dX8_cut_9 : decode cX8_cut 9 = .ok (.iload_n 2, 1) := by decide +kernel
theorem dX8_cut_10 : decode cX8_cut 10 = .ok (.aload_n 0, 1) := by decide +kernel
theorem dX8_cut_11 : decode cX8_cut 11 = .ok (.getfield 24, 3) := by decide +kernel
theorem dX8_cut_14 : decode cX8_cut 14 = .ok (.if_icmp .ge 168, 3) := by decide +kernel
theorem dX8_cut_17 : decode cX8_cut 17 = .ok (.iload_n 2, 1) := by decide +kernel
theorem dX8_cut_18 : decode cX8_cut 18 = .ok (.sipush 300, 3) := by decide +kernel
theorem dX8_cut_21 : decode cX8_cut 21 = .ok (.if_icmp .ge 161, 3) := by decide +kernel
theorem dX8_cut_24 : decode cX8_cut 24 = .ok (.aload_n 0, 1) := by decide +kernel
theorem dX8_cut_25 : decode cX8_cut 25 = .ok (.getfield 9, 3) := by decide +kernel
theorem dX8_cut_28 : decode cX8_cut 28 = .ok (.iload_n 2, 1) := by decide +kernel
theorem dX8_cut_29 : decode cX8_cut 29 = .ok (.iaload, 1) := by decide +kernel
theorem dX8_cut_30 : decode cX8_cut 30 = .ok (.istore_n 3, 1) := by decide +kernel
theorem dX8_cut_31 : decode cX8_cut 31 = .ok (.iload_n 3, 1) := by decide +kernel
theorem dX8_cut_32 : decode cX8_cut 32 = .ok (.invokestatic 31, 3) := by decide +kernel
theorem dX8_cut_35 : decode cX8_cut 35 = .ok (.ifCond .eq 24, 3) := by decide +kernel
theorem dX8_cut_38 : decode cX8_cut 38 = .ok (.aload_n 0, 1) := by decide +kernel
theorem dX8_cut_39 : decode cX8_cut 39 = .ok (.iload_n 2, 1) := by decide +kernel
theorem dX8_cut_40 : decode cX8_cut 40 = .ok (.invokevirtual 35, 3) := by decide +kernel
theorem dX8_cut_43 : decode cX8_cut 43 = .ok (.istore_n 1, 1) := by decide +kernel
theorem dX8_cut_44 : decode cX8_cut 44 = .ok (.aload_n 0, 1) := by decide +kernel
theorem dX8_cut_45 : decode cX8_cut 45 = .ok (.aload_n 0, 1) := by decide +kernel
theorem dX8_cut_46 : decode cX8_cut 46 = .ok (.iload_n 2, 1) := by decide +kernel
theorem dX8_cut_47 : decode cX8_cut 47 = .ok (.iload_n 1, 1) := by decide +kernel
theorem dX8_cut_48 : decode cX8_cut 48 = .ok (.invokevirtual 39, 3) := by decide +kernel
theorem dX8_cut_51 : decode cX8_cut 51 = .ok (.iload_n 2, 1) := by decide +kernel
theorem dX8_cut_52 : decode cX8_cut 52 = .ok (.iconst 0, 1) := by decide +kernel
theorem dX8_cut_53 : decode cX8_cut 53 = .ok (.invokevirtual 43, 3) := by decide +kernel
theorem dX8_cut_56 : decode cX8_cut 56 = .ok (.goto 115, 3) := by decide +kernel
theorem dX8_cut_59 : decode cX8_cut 59 = .ok (.iload_n 3, 1) := by decide +kernel
theorem dX8_cut_60 : decode cX8_cut 60 = .ok (.invokestatic 47, 3) := by decide +kernel
theorem dX8_cut_63 : decode cX8_cut 63 = .ok (.ifCond .eq 25, 3) := by decide +kernel
theorem dX8_cut_66 : decode cX8_cut 66 = .ok (.aload_n 0, 1) := by decide +kernel
theorem dX8_cut_67 : decode cX8_cut 67 = .ok (.iload_n 2, 1) := by decide +kernel
theorem dX8_cut_68 : decode cX8_cut 68 = .ok (.invokevirtual 50, 3) := by decide +kernel
theorem dX8_cut_71 : decode cX8_cut 71 = .ok (.istore_n 1, 1) := by decide +kernel
theorem dX8_cut_72 : decode cX8_cut 72 = .ok (.aload_n 0, 1) := by decide +kernel
theorem dX8_cut_73 : decode cX8_cut 73 = .ok (.bipush 28, 2) := by decide +kernel
theorem dX8_cut_75 : decode cX8_cut 75 = .ok (.iload_n 2, 1) := by decide +kernel
theorem dX8_cut_76 : decode cX8_cut 76 = .ok (.aload_n 0, 1) := by decide +kernel
theorem dX8_cut_77 : decode cX8_cut 77 = .ok (.iload_n 2, 1) := by decide +kernel
theorem dX8_cut_78 : decode cX8_cut 78 = .ok (.iload_n 1, 1) := by decide +kernel
theorem dX8_cut_79 : decode cX8_cut 79 = .ok (.invokevirtual 53, 3) := by decide +kernel
theorem dX8_cut_82 : decode cX8_cut 82 = .ok (.invokevirtual 43, 3) := by decide +kernel
theorem dX8_cut_85 : decode cX8_cut 85 = .ok (.goto 86, 3) := by decide +kernel
theorem dX8_cut_88 : decode cX8_cut 88 = .ok (.iload_n 3, 1) := by decide +kernel
theorem dX8_cut_89 : decode cX8_cut 89 = .ok (.bipush 60, 2) := by decide +kernel
theorem dX8_cut_91 : decode cX8_cut 91 = .ok (.if_icmp .eq 9, 3) := by decide +kernel
theorem dX8_cut_94 : decode cX8_cut 94 = .ok (.iload_n 3, 1) := by decide +kernel
theorem dX8_cut_95 : decode cX8_cut 95 = .ok (.bipush 62, 2) := by decide +kernel
theorem dX8_cut_97 : decode cX8_cut 97 = .ok (.if_icmp .ne 43, 3) := by decide +kernel
theorem dX8_cut_100 : decode cX8_cut 100 = .ok (.aload_n 0, 1) := by decide +kernel
theorem dX8_cut_101 : decode cX8_cut 101 = .ok (.iload_n 2, 1) := by decide +kernel
theorem dX8_cut_102 : decode cX8_cut 102 = .ok (.iconst 1, 1) := by decide +kernel
theorem dX8_cut_103 : decode cX8_cut 103 = .ok (.iadd, 1) := by decide +kernel
theorem dX8_cut_104 : decode cX8_cut 104 = .ok (.invokevirtual 56, 3) := by decide +kernel
theorem dX8_cut_107 : decode cX8_cut 107 = .ok (.bipush 61, 2) := by decide +kernel
theorem dX8_cut_109 : decode cX8_cut 109 = .ok (.if_icmp .ne 31, 3) := by decide +kernel
theorem dX8_cut_112 : decode cX8_cut 112 = .ok (.iload_n 2, 1) := by decide +kernel
theorem dX8_cut_113 : decode cX8_cut 113 = .ok (.iconst 2, 1) := by decide +kernel
theorem dX8_cut_114 : decode cX8_cut 114 = .ok (.iadd, 1) := by decide +kernel
theorem dX8_cut_115 : decode cX8_cut 115 = .ok (.istore_n 1, 1) := by decide +kernel
theorem dX8_cut_116 : decode cX8_cut 116 = .ok (.aload_n 0, 1) := by decide +kernel
theorem dX8_cut_117 : decode cX8_cut 117 = .ok (.iload_n 3, 1) := by decide +kernel
theorem dX8_cut_118 : decode cX8_cut 118 = .ok (.bipush 60, 2) := by decide +kernel
theorem dX8_cut_120 : decode cX8_cut 120 = .ok (.if_icmp .ne 9, 3) := by decide +kernel
theorem dX8_cut_123 : decode cX8_cut 123 = .ok (.sipush 316, 3) := by decide +kernel
theorem dX8_cut_126 : decode cX8_cut 126 = .ok (.goto 6, 3) := by decide +kernel
theorem dX8_cut_129 : decode cX8_cut 129 = .ok (.sipush 318, 3) := by decide +kernel
theorem dX8_cut_132 : decode cX8_cut 132 = .ok (.iload_n 2, 1) := by decide +kernel
theorem dX8_cut_133 : decode cX8_cut 133 = .ok (.iconst 0, 1) := by decide +kernel
theorem dX8_cut_134 : decode cX8_cut 134 = .ok (.invokevirtual 43, 3) := by decide +kernel
theorem dX8_cut_137 : decode cX8_cut 137 = .ok (.goto 34, 3) := by decide +kernel
theorem dX8_cut_140 : decode cX8_cut 140 = .ok (.iload_n 3, 1) := by decide +kernel
theorem dX8_cut_141 : decode cX8_cut 141 = .ok (.bipush 32, 2) := by decide +kernel
theorem dX8_cut_143 : decode cX8_cut 143 = .ok (.if_icmp .eq 28, 3) := by decide +kernel
theorem dX8_cut_146 : decode cX8_cut 146 = .ok (.iload_n 3, 1) := by decide +kernel
theorem dX8_cut_147 : decode cX8_cut 147 = .ok (.bipush 10, 2) := by decide +kernel
theorem dX8_cut_149 : decode cX8_cut 149 = .ok (.if_icmp .eq 22, 3) := by decide +kernel
theorem dX8_cut_152 : decode cX8_cut 152 = .ok (.aload_n 0, 1) := by decide +kernel
theorem dX8_cut_153 : decode cX8_cut 153 = .ok (.iload_n 3, 1) := by decide +kernel
theorem dX8_cut_154 : decode cX8_cut 154 = .ok (.invokestatic 59, 3) := by decide +kernel
theorem dX8_cut_157 : decode cX8_cut 157 = .ok (.ifCond .eq 7, 3) := by decide +kernel
theorem dX8_cut_160 : decode cX8_cut 160 = .ok (.iload_n 3, 1) := by decide +kernel
theorem dX8_cut_161 : decode cX8_cut 161 = .ok (.goto 5, 3) := by decide +kernel
theorem dX8_cut_164 : decode cX8_cut 164 = .ok (.bipush 26, 2) := by decide +kernel
theorem dX8_cut_166 : decode cX8_cut 166 = .ok (.iload_n 2, 1) := by decide +kernel
theorem dX8_cut_167 : decode cX8_cut 167 = .ok (.iconst 0, 1) := by decide +kernel
theorem dX8_cut_168 : decode cX8_cut 168 = .ok (.invokevirtual 43, 3) := by decide +kernel
theorem dX8_cut_171 : decode cX8_cut 171 = .ok (.iload_n 2, 1) := by decide +kernel
theorem dX8_cut_172 : decode cX8_cut 172 = .ok (.iconst 1, 1) := by decide +kernel
theorem dX8_cut_173 : decode cX8_cut 173 = .ok (.iadd, 1) := by decide +kernel
theorem dX8_cut_174 : decode cX8_cut 174 = .ok (.iload_n 1, 1) := by decide +kernel
theorem dX8_cut_175 : decode cX8_cut 175 = .ok (.invokestatic 62, 3) := by decide +kernel
theorem dX8_cut_178 : decode cX8_cut 178 = .ok (.istore_n 2, 1) := by decide +kernel
theorem dX8_cut_179 : decode cX8_cut 179 = .ok (.goto (-170), 3) := by decide +kernel
theorem dX8_cut_182 : decode cX8_cut 182 = .ok (.aload_n 0, 1) := by decide +kernel
theorem dX8_cut_183 : decode cX8_cut 183 = .ok (.bipush 27, 2) := by decide +kernel
theorem dX8_cut_185 : decode cX8_cut 185 = .ok (.aload_n 0, 1) := by decide +kernel
theorem dX8_cut_186 : decode cX8_cut 186 = .ok (.getfield 24, 3) := by decide +kernel
theorem dX8_cut_189 : decode cX8_cut 189 = .ok (.iconst 0, 1) := by decide +kernel
theorem dX8_cut_190 : decode cX8_cut 190 = .ok (.invokevirtual 43, 3) := by decide +kernel
theorem dX8_cut_193 : decode cX8_cut 193 = .ok (.return_, 1) := by decide +kernel
def m8_cut : pMT := (yX8_cut, cX8_cut, 4, none)
theorem mo8_cut : mOK m8_cut 0 := ⟨tb_i 441 (by decide +kernel), wi_RX8, ⟨wn_RX8.1, wn_RX8.2, by decide +kernel⟩, by decide, plainFor_of_name wp_RX8⟩
theorem mv8_cut : mV m8_cut := ⟨tb_i 439 (by decide +kernel), tb_i 440 (by decide +kernel)⟩
def f8_cut_c140 (n : Nat) (O : (Nat → Nat → Option Nat)) (k9 : ((Nat → Nat → Int32) → Nat → Int32 → Int32 → Option ((Nat → Nat → Int32)))) (I : (Nat → Nat → Int32)) (b0 : Nat) (y1 : Int32) (y2 : Int32) (y3 : Int32) : Option ((Nat → Nat → Int32)) := (if y3 = (32 : Int32) then (fJ9_max_7cf53 (y2 + 1) y1).bind fun r2 => k9 I b0 y1 r2 else (if y3 = (10 : Int32) then (fJ9_max_7cf53 (y2 + 1) y1).bind fun r5 => k9 I b0 y1 r5 else (f8_isSign y3).bind fun r7 => (if r7 = 0 then (f8_addToken I O b0 (26 : Int32) y2 (0 : Int32)).bind fun r10 => (fJ9_max_7cf53 (y2 + 1) y1).bind fun r12 => k9 r10 b0 y1 r12 else (f8_addToken I O b0 y3 y2 (0 : Int32)).bind fun r14 => (fJ9_max_7cf53 (y2 + 1) y1).bind fun r16 => k9 r14 b0 y1 r16)))
set_option maxHeartbeats 4000000 in
set_option maxRecDepth 20000 in
theorem o8_cut_c140 {g : pG} {Qx : Option Value → pW → Prop} {Z : pZ} {L : (Nat → Nat → Int64)} {O : (Nat → Nat → Option Nat)} {n : Nat} {k9 : ((Nat → Nat → Int32) → Nat → Int32 → Int32 → Option ((Nat → Nat → Int32)))} {res : (Nat → Nat → Int32)} (d : Nat) (hW : WT Z O) (hStr : StrOK g) (hQ : Qx none (Z, res, L, O)) (hk9 : ∀ (I : (Nat → Nat → Int32)) (b0 : Nat) (y1 : Int32) (y2 : Int32), (Z[b0]? = some (8, 6)) → k9 I b0 y1 y2 = some res → Ok g (d + 14, RX8, cX8_cut, 4, false, 0, 0, Z.length, pSl Z) Qx 9 [(0, .ref b0), (1, .int y1), (2, .int y2)] [] (Z, I, L, O)) (I : (Nat → Nat → Int32)) (b0 : Nat) (y1 : Int32) (y2 : Int32) (y3 : Int32) (hZ_b0 : Z[b0]? = some (8, 6)) (h : f8_cut_c140 n O k9 I b0 y1 y2 y3 = some res) : Ok g (d + 14, RX8, cX8_cut, 4, false, 0, 0, Z.length, pSl Z) Qx 140 [(0, .ref b0), (1, .int y1), (2, .int y2), (3, .int y3)] [] (Z, I, L, O) := by
  unfold f8_cut_c140 at h
  refine ok_iload_n dX8_cut_140 3 rfl ?_
  refine ok_bipush (v := 32) dX8_cut_141 (by decide) ?_
  refine ok_icmp_eq (t := 171) dX8_cut_143 (by decide) (fun hc1 => ?_) (fun hc1 => ?_)
  · have h := (if_pos hc1).symm.trans h
    refine ok_iload_n dX8_cut_171 2 rfl ?_
    refine ok_iconst (v := 1) dX8_cut_172 (by decide) ?_
    refine ok_iadd dX8_cut_173 ?_
    refine ok_iload_n dX8_cut_174 1 rfl ?_
    obtain ⟨r2, hr3, h⟩ := bd h
    refine ok_callS (d := ((d + 11) + 2)) (mt := mJ9_max_7cf53) (mc := 0) (ms := 0) (As := [.int (y2 + 1), .int y1]) (r := []) dX8_cut_175 moJ9_max_7cf53 mvJ9_max_7cf53 lkRX8_62 rfl rfl (Nat.le_of_ble_eq_true rfl) (by show _ + 1 ≤ d + _; omega) (Nat.le_refl _) (Nat.le_refl _) (pRt_mono ?_)
    refine kJ9_max_7cf53 (d + 11) hW  hr3 ?_
    intro _
    show Ok g _ Qx 178 [(0, .ref b0), (1, .int y1), (2, .int y2), (3, .int y3)] [.int r2] (Z, I, L, O)
    refine ok_istore_n (l' := [(2, .int r2), (0, .ref b0), (1, .int y1), (3, .int y3)]) dX8_cut_178 rfl (Nat.le_of_ble_eq_true rfl) rfl ?_
    refine ok_goto (t := 9) dX8_cut_179 (by decide) ?_
    refine ok_sub [1, 2, 0] rfl ?_
    exact hk9 I b0 y1 r2 hZ_b0 h
  · have h := (if_neg hc1).symm.trans h
    refine ok_iload_n dX8_cut_146 3 rfl ?_
    refine ok_bipush (v := 10) dX8_cut_147 (by decide) ?_
    refine ok_icmp_eq (t := 171) dX8_cut_149 (by decide) (fun hc4 => ?_) (fun hc4 => ?_)
    · have h := (if_pos hc4).symm.trans h
      refine ok_iload_n dX8_cut_171 2 rfl ?_
      refine ok_iconst (v := 1) dX8_cut_172 (by decide) ?_
      refine ok_iadd dX8_cut_173 ?_
      refine ok_iload_n dX8_cut_174 1 rfl ?_
      obtain ⟨r5, hr6, h⟩ := bd h
      refine ok_callS (d := ((d + 11) + 2)) (mt := mJ9_max_7cf53) (mc := 0) (ms := 0) (As := [.int (y2 + 1), .int y1]) (r := []) dX8_cut_175 moJ9_max_7cf53 mvJ9_max_7cf53 lkRX8_62 rfl rfl (Nat.le_of_ble_eq_true rfl) (by show _ + 1 ≤ d + _; omega) (Nat.le_refl _) (Nat.le_refl _) (pRt_mono ?_)
      refine kJ9_max_7cf53 (d + 11) hW  hr6 ?_
      intro _
      show Ok g _ Qx 178 [(0, .ref b0), (1, .int y1), (2, .int y2), (3, .int y3)] [.int r5] (Z, I, L, O)
      refine ok_istore_n (l' := [(2, .int r5), (0, .ref b0), (1, .int y1), (3, .int y3)]) dX8_cut_178 rfl (Nat.le_of_ble_eq_true rfl) rfl ?_
      refine ok_goto (t := 9) dX8_cut_179 (by decide) ?_
      refine ok_sub [1, 2, 0] rfl ?_
      exact hk9 I b0 y1 r5 hZ_b0 h
    · have h := (if_neg hc4).symm.trans h
      refine ok_aload_n dX8_cut_152 0 rfl ?_
      refine ok_iload_n dX8_cut_153 3 rfl ?_
      obtain ⟨r7, hr8, h⟩ := bd h
      refine ok_callS (d := ((d + 11) + 2)) (mt := m8_isSign) (mc := 0) (ms := 0) (As := [.int y3]) (r := [.ref b0]) dX8_cut_154 mo8_isSign mv8_isSign lkRX8_59 rfl rfl (Nat.le_of_ble_eq_true rfl) (by show _ + 1 ≤ d + _; omega) (Nat.le_refl _) (Nat.le_refl _) (pRt_mono ?_)
      refine k8_isSign (d + 11) hW  hr8 ?_
      intro hbr7
      show Ok g _ Qx 157 [(0, .ref b0), (1, .int y1), (2, .int y2), (3, .int y3)] [.int r7, .ref b0] (Z, I, L, O)
      refine ok_if_eq (t := 164) dX8_cut_157 (by decide) (fun hc9 => ?_) (fun hc9 => ?_)
      · have h := (if_pos hc9).symm.trans h
        refine ok_bipush (v := 26) dX8_cut_164 (by decide) ?_
        refine ok_iload_n dX8_cut_166 2 rfl ?_
        refine ok_iconst (v := 0) dX8_cut_167 (by decide) ?_
        obtain ⟨r10, hr11, h⟩ := bd h
        refine ok_callV (d := ((d + 11) + 2)) (mt := m8_addToken) (mc := 0) (ms := 0) (As := [.int 26, .int y2, .int 0]) (r := []) dX8_cut_168 mo8_addToken mv8_addToken lkRX8_43 rfl hZ_b0 (q := (RX8, TX8, 6)) rfl rfl rfl (Nat.le_of_ble_eq_true rfl) (by show _ + 1 ≤ d + _; omega) (Nat.le_refl _) (Nat.le_refl _) (pRt_mono ?_)
        refine k8_addToken (d + 11) hW hZ_b0 hr11 ?_
        intro _
        show Ok g _ Qx 171 [(0, .ref b0), (1, .int y1), (2, .int y2), (3, .int y3)] [] (Z, r10, L, O)
        refine ok_iload_n dX8_cut_171 2 rfl ?_
        refine ok_iconst (v := 1) dX8_cut_172 (by decide) ?_
        refine ok_iadd dX8_cut_173 ?_
        refine ok_iload_n dX8_cut_174 1 rfl ?_
        obtain ⟨r12, hr13, h⟩ := bd h
        refine ok_callS (d := ((d + 11) + 2)) (mt := mJ9_max_7cf53) (mc := 0) (ms := 0) (As := [.int (y2 + 1), .int y1]) (r := []) dX8_cut_175 moJ9_max_7cf53 mvJ9_max_7cf53 lkRX8_62 rfl rfl (Nat.le_of_ble_eq_true rfl) (by show _ + 1 ≤ d + _; omega) (Nat.le_refl _) (Nat.le_refl _) (pRt_mono ?_)
        refine kJ9_max_7cf53 (d + 11) hW  hr13 ?_
        intro _
        show Ok g _ Qx 178 [(0, .ref b0), (1, .int y1), (2, .int y2), (3, .int y3)] [.int r12] (Z, r10, L, O)
        refine ok_istore_n (l' := [(2, .int r12), (0, .ref b0), (1, .int y1), (3, .int y3)]) dX8_cut_178 rfl (Nat.le_of_ble_eq_true rfl) rfl ?_
        refine ok_goto (t := 9) dX8_cut_179 (by decide) ?_
        refine ok_sub [1, 2, 0] rfl ?_
        exact hk9 r10 b0 y1 r12 hZ_b0 h
      · have h := (if_neg hc9).symm.trans h
        refine ok_iload_n dX8_cut_160 3 rfl ?_
        refine ok_goto (t := 166) dX8_cut_161 (by decide) ?_
        refine ok_iload_n dX8_cut_166 2 rfl ?_
        refine ok_iconst (v := 0) dX8_cut_167 (by decide) ?_
        obtain ⟨r14, hr15, h⟩ := bd h
        refine ok_callV (d := ((d + 11) + 2)) (mt := m8_addToken) (mc := 0) (ms := 0) (As := [.int y3, .int y2, .int 0]) (r := []) dX8_cut_168 mo8_addToken mv8_addToken lkRX8_43 rfl hZ_b0 (q := (RX8, TX8, 6)) rfl rfl rfl (Nat.le_of_ble_eq_true rfl) (by show _ + 1 ≤ d + _; omega) (Nat.le_refl _) (Nat.le_refl _) (pRt_mono ?_)
        refine k8_addToken (d + 11) hW hZ_b0 hr15 ?_
        intro _
        show Ok g _ Qx 171 [(0, .ref b0), (1, .int y1), (2, .int y2), (3, .int y3)] [] (Z, r14, L, O)
        refine ok_iload_n dX8_cut_171 2 rfl ?_
        refine ok_iconst (v := 1) dX8_cut_172 (by decide) ?_
        refine ok_iadd dX8_cut_173 ?_
        refine ok_iload_n dX8_cut_174 1 rfl ?_
        obtain ⟨r16, hr17, h⟩ := bd h
        refine ok_callS (d := ((d + 11) + 2)) (mt := mJ9_max_7cf53) (mc := 0) (ms := 0) (As := [.int (y2 + 1), .int y1]) (r := []) dX8_cut_175 moJ9_max_7cf53 mvJ9_max_7cf53 lkRX8_62 rfl rfl (Nat.le_of_ble_eq_true rfl) (by show _ + 1 ≤ d + _; omega) (Nat.le_refl _) (Nat.le_refl _) (pRt_mono ?_)
        refine kJ9_max_7cf53 (d + 11) hW  hr17 ?_
        intro _
        show Ok g _ Qx 178 [(0, .ref b0), (1, .int y1), (2, .int y2), (3, .int y3)] [.int r16] (Z, r14, L, O)
        refine ok_istore_n (l' := [(2, .int r16), (0, .ref b0), (1, .int y1), (3, .int y3)]) dX8_cut_178 rfl (Nat.le_of_ble_eq_true rfl) rfl ?_
        refine ok_goto (t := 9) dX8_cut_179 (by decide) ?_
        refine ok_sub [1, 2, 0] rfl ?_
        exact hk9 r14 b0 y1 r16 hZ_b0 h
def f8_cut_c132 (n : Nat) (O : (Nat → Nat → Option Nat)) (k9 : ((Nat → Nat → Int32) → Nat → Int32 → Int32 → Option ((Nat → Nat → Int32)))) (I : (Nat → Nat → Int32)) (b0 : Nat) (y1 : Int32) (y2 : Int32) (t0 : Int32) (t1 : Nat) : Option ((Nat → Nat → Int32)) := (f8_addToken I O t1 t0 y2 (0 : Int32)).bind fun r1 => (fJ9_max_7cf53 (y2 + 1) y1).bind fun r3 => k9 r1 b0 y1 r3
set_option maxHeartbeats 4000000 in
set_option maxRecDepth 20000 in
theorem o8_cut_c132 {g : pG} {Qx : Option Value → pW → Prop} {Z : pZ} {L : (Nat → Nat → Int64)} {O : (Nat → Nat → Option Nat)} {n : Nat} {k9 : ((Nat → Nat → Int32) → Nat → Int32 → Int32 → Option ((Nat → Nat → Int32)))} {res : (Nat → Nat → Int32)} (d : Nat) (hW : WT Z O) (hStr : StrOK g) (hQ : Qx none (Z, res, L, O)) (hk9 : ∀ (I : (Nat → Nat → Int32)) (b0 : Nat) (y1 : Int32) (y2 : Int32), (Z[b0]? = some (8, 6)) → k9 I b0 y1 y2 = some res → Ok g (d + 14, RX8, cX8_cut, 4, false, 0, 0, Z.length, pSl Z) Qx 9 [(0, .ref b0), (1, .int y1), (2, .int y2)] [] (Z, I, L, O)) (I : (Nat → Nat → Int32)) (b0 : Nat) (y1 : Int32) (y2 : Int32) (t0 : Int32) (t1 : Nat) (hZ_b0 : Z[b0]? = some (8, 6)) (hZ_t1 : Z[t1]? = some (8, 6)) (h : f8_cut_c132 n O k9 I b0 y1 y2 t0 t1 = some res) : Ok g (d + 14, RX8, cX8_cut, 4, false, 0, 0, Z.length, pSl Z) Qx 132 [(0, .ref b0), (1, .int y1), (2, .int y2)] [.int t0, .ref t1] (Z, I, L, O) := by
  unfold f8_cut_c132 at h
  refine ok_iload_n dX8_cut_132 2 rfl ?_
  refine ok_iconst (v := 0) dX8_cut_133 (by decide) ?_
  obtain ⟨r1, hr2, h⟩ := bd h
  refine ok_callV (d := ((d + 11) + 2)) (mt := m8_addToken) (mc := 0) (ms := 0) (As := [.int t0, .int y2, .int 0]) (r := []) dX8_cut_134 mo8_addToken mv8_addToken lkRX8_43 rfl hZ_t1 (q := (RX8, TX8, 6)) rfl rfl rfl (Nat.le_of_ble_eq_true rfl) (by show _ + 1 ≤ d + _; omega) (Nat.le_refl _) (Nat.le_refl _) (pRt_mono ?_)
  refine k8_addToken (d + 11) hW hZ_t1 hr2 ?_
  intro _
  show Ok g _ Qx 137 [(0, .ref b0), (1, .int y1), (2, .int y2)] [] (Z, r1, L, O)
  refine ok_goto (t := 171) dX8_cut_137 (by decide) ?_
  refine ok_iload_n dX8_cut_171 2 rfl ?_
  refine ok_iconst (v := 1) dX8_cut_172 (by decide) ?_
  refine ok_iadd dX8_cut_173 ?_
  refine ok_iload_n dX8_cut_174 1 rfl ?_
  obtain ⟨r3, hr4, h⟩ := bd h
  refine ok_callS (d := ((d + 11) + 2)) (mt := mJ9_max_7cf53) (mc := 0) (ms := 0) (As := [.int (y2 + 1), .int y1]) (r := []) dX8_cut_175 moJ9_max_7cf53 mvJ9_max_7cf53 lkRX8_62 rfl rfl (Nat.le_of_ble_eq_true rfl) (by show _ + 1 ≤ d + _; omega) (Nat.le_refl _) (Nat.le_refl _) (pRt_mono ?_)
  refine kJ9_max_7cf53 (d + 11) hW  hr4 ?_
  intro _
  show Ok g _ Qx 178 [(0, .ref b0), (1, .int y1), (2, .int y2)] [.int r3] (Z, r1, L, O)
  refine ok_istore_n (l' := [(2, .int r3), (0, .ref b0), (1, .int y1)]) dX8_cut_178 rfl (Nat.le_of_ble_eq_true rfl) rfl ?_
  refine ok_goto (t := 9) dX8_cut_179 (by decide) ?_
  refine ok_sub [1, 2, 0] rfl ?_
  exact hk9 r1 b0 y1 r3 hZ_b0 h
def f8_cut_c100 (n : Nat) (O : (Nat → Nat → Option Nat)) (k9 : ((Nat → Nat → Int32) → Nat → Int32 → Int32 → Option ((Nat → Nat → Int32)))) (I : (Nat → Nat → Int32)) (b0 : Nat) (y1 : Int32) (y2 : Int32) (y3 : Int32) : Option ((Nat → Nat → Int32)) := (f8_byteAt I O b0 (y2 + 1)).bind fun r1 => (if r1 = (61 : Int32) then (if y3 = (60 : Int32) then f8_cut_c132 n O k9 I b0 (y2 + 2) y2 (316 : Int32) b0 else f8_cut_c132 n O k9 I b0 (y2 + 2) y2 (318 : Int32) b0) else f8_cut_c140 n O k9 I b0 y1 y2 y3)
set_option maxHeartbeats 4000000 in
set_option maxRecDepth 20000 in
theorem o8_cut_c100 {g : pG} {Qx : Option Value → pW → Prop} {Z : pZ} {L : (Nat → Nat → Int64)} {O : (Nat → Nat → Option Nat)} {n : Nat} {k9 : ((Nat → Nat → Int32) → Nat → Int32 → Int32 → Option ((Nat → Nat → Int32)))} {res : (Nat → Nat → Int32)} (d : Nat) (hW : WT Z O) (hStr : StrOK g) (hQ : Qx none (Z, res, L, O)) (hk9 : ∀ (I : (Nat → Nat → Int32)) (b0 : Nat) (y1 : Int32) (y2 : Int32), (Z[b0]? = some (8, 6)) → k9 I b0 y1 y2 = some res → Ok g (d + 14, RX8, cX8_cut, 4, false, 0, 0, Z.length, pSl Z) Qx 9 [(0, .ref b0), (1, .int y1), (2, .int y2)] [] (Z, I, L, O)) (I : (Nat → Nat → Int32)) (b0 : Nat) (y1 : Int32) (y2 : Int32) (y3 : Int32) (hZ_b0 : Z[b0]? = some (8, 6)) (h : f8_cut_c100 n O k9 I b0 y1 y2 y3 = some res) : Ok g (d + 14, RX8, cX8_cut, 4, false, 0, 0, Z.length, pSl Z) Qx 100 [(0, .ref b0), (1, .int y1), (2, .int y2), (3, .int y3)] [] (Z, I, L, O) := by
  unfold f8_cut_c100 at h
  refine ok_aload_n dX8_cut_100 0 rfl ?_
  refine ok_iload_n dX8_cut_101 2 rfl ?_
  refine ok_iconst (v := 1) dX8_cut_102 (by decide) ?_
  refine ok_iadd dX8_cut_103 ?_
  obtain ⟨r1, hr2, h⟩ := bd h
  refine ok_callV (d := ((d + 11) + 2)) (mt := m8_byteAt) (mc := 0) (ms := 0) (As := [.int (y2 + 1)]) (r := []) dX8_cut_104 mo8_byteAt mv8_byteAt lkRX8_56 rfl hZ_b0 (q := (RX8, TX8, 6)) rfl rfl rfl (Nat.le_of_ble_eq_true rfl) (by show _ + 1 ≤ d + _; omega) (Nat.le_refl _) (Nat.le_refl _) (pRt_mono ?_)
  refine k8_byteAt (d + 11) hW hZ_b0 hr2 ?_
  intro _
  show Ok g _ Qx 107 [(0, .ref b0), (1, .int y1), (2, .int y2), (3, .int y3)] [.int r1] (Z, I, L, O)
  refine ok_bipush (v := 61) dX8_cut_107 (by decide) ?_
  refine ok_icmp_ne (t := 140) dX8_cut_109 (by decide) (fun hc3 => ?_) (fun hc3 => ?_)
  · have h := (if_neg hc3).symm.trans h
    refine ok_sub [0, 1, 2, 3] rfl ?_
    exact o8_cut_c140 d hW hStr hQ hk9 I b0 y1 y2 y3 hZ_b0 h
  · have h := (if_pos hc3).symm.trans h
    refine ok_iload_n dX8_cut_112 2 rfl ?_
    refine ok_iconst (v := 2) dX8_cut_113 (by decide) ?_
    refine ok_iadd dX8_cut_114 ?_
    refine ok_istore_n (l' := [(1, .int (y2 + 2)), (0, .ref b0), (2, .int y2), (3, .int y3)]) dX8_cut_115 rfl (Nat.le_of_ble_eq_true rfl) rfl ?_
    refine ok_aload_n dX8_cut_116 1 rfl ?_
    refine ok_iload_n dX8_cut_117 3 rfl ?_
    refine ok_bipush (v := 60) dX8_cut_118 (by decide) ?_
    refine ok_icmp_ne (t := 129) dX8_cut_120 (by decide) (fun hc4 => ?_) (fun hc4 => ?_)
    · have h := (if_neg hc4).symm.trans h
      refine ok_sipush (v := 318) dX8_cut_129 (by decide) ?_
      refine ok_sub [1, 0, 2] rfl ?_
      exact o8_cut_c132 d hW hStr hQ hk9 I b0 (y2 + 2) y2 (318 : Int32) b0 hZ_b0 hZ_b0 h
    · have h := (if_pos hc4).symm.trans h
      refine ok_sipush (v := 316) dX8_cut_123 (by decide) ?_
      refine ok_goto (t := 132) dX8_cut_126 (by decide) ?_
      refine ok_sub [1, 0, 2] rfl ?_
      exact o8_cut_c132 d hW hStr hQ hk9 I b0 (y2 + 2) y2 (316 : Int32) b0 hZ_b0 hZ_b0 h
def f8_cut_c9 (n : Nat) (O : (Nat → Nat → Option Nat)) : Nat → (Nat → Nat → Int32) → Nat → Int32 → Int32 → Option ((Nat → Nat → Int32))
  | 0, _, _, _, _ => none
  | m + 1, I, b0, y1, y2 => (if (I b0 4) ≤ y2 then (f8_addToken I O b0 (27 : Int32) (I b0 4) (0 : Int32)).bind fun r2 => some (r2) else (if (300 : Int32) ≤ y2 then (f8_addToken I O b0 (27 : Int32) (I b0 4) (0 : Int32)).bind fun r5 => some (r5) else (if y2 < 0 ∨ 300 ≤ y2.toNatClampNeg then none else bl ((I (rO O b0 0) y2.toNatClampNeg) : Int32) fun z9 => (f8_isLetter z9).bind fun r10 => (if r10 = 0 then (f8_isDigit z9).bind fun r13 => (if r13 = 0 then (if z9 = (60 : Int32) then f8_cut_c100 n O (f8_cut_c9 n O m) I b0 y1 y2 z9 else (if z9 = (62 : Int32) then f8_cut_c100 n O (f8_cut_c9 n O m) I b0 y1 y2 z9 else f8_cut_c140 n O (f8_cut_c9 n O m) I b0 y1 y2 z9)) else (f8_numberEnd n I O b0 y2).bind fun r18 => (f8_numberOf n I O b0 y2 r18).bind fun r20 => (f8_addToken I O b0 (28 : Int32) y2 r20).bind fun r22 => (fJ9_max_7cf53 (y2 + 1) r18).bind fun r24 => f8_cut_c9 n O m r22 b0 r18 r24) else (f8_wordEnd n I O b0 y2).bind fun r26 => (f8_wordNumber n I O b0 y2 r26).bind fun r28 => (f8_addToken I O b0 r28 y2 (0 : Int32)).bind fun r30 => (fJ9_max_7cf53 (y2 + 1) r26).bind fun r32 => f8_cut_c9 n O m r30 b0 r26 r32))))
set_option maxHeartbeats 4000000 in
set_option maxRecDepth 20000 in
theorem o8_cut_c9 {g : pG} {Qx : Option Value → pW → Prop} {Z : pZ} {L : (Nat → Nat → Int64)} {O : (Nat → Nat → Option Nat)} {n : Nat} {res : (Nat → Nat → Int32)} (d : Nat) (hW : WT Z O) (hStr : StrOK g) (hQ : Qx none (Z, res, L, O)) : ∀ (m : Nat) (I : (Nat → Nat → Int32)) (b0 : Nat) (y1 : Int32) (y2 : Int32), (Z[b0]? = some (8, 6)) → f8_cut_c9 n O m I b0 y1 y2 = some res → Ok g (d + 14, RX8, cX8_cut, 4, false, 0, 0, Z.length, pSl Z) Qx 9 [(0, .ref b0), (1, .int y1), (2, .int y2)] [] (Z, I, L, O) := by
  intro m
  induction m with
  | zero => intro I b0 y1 y2 hZ_b0 h; rw [f8_cut_c9] at h; cases h
  | succ m ih =>
    intro I b0 y1 y2 hZ_b0 h
    rw [f8_cut_c9] at h
    refine ok_iload_n dX8_cut_9 2 rfl ?_
    refine ok_aload_n dX8_cut_10 0 rfl ?_
    refine ok_getI (ci := 8) (k := 4) dX8_cut_11 flRX8_24 rfl hZ_b0 (by decide) ?_
    refine ok_icmp_ge (t := 182) dX8_cut_14 (by decide) (fun hc1 => ?_) (fun hc1 => ?_)
    · have h := (if_pos hc1).symm.trans h
      refine ok_aload_n dX8_cut_182 0 rfl ?_
      refine ok_bipush (v := 27) dX8_cut_183 (by decide) ?_
      refine ok_aload_n dX8_cut_185 0 rfl ?_
      refine ok_getI (ci := 8) (k := 4) dX8_cut_186 flRX8_24 rfl hZ_b0 (by decide) ?_
      refine ok_iconst (v := 0) dX8_cut_189 (by decide) ?_
      obtain ⟨r2, hr3, h⟩ := bd h
      refine ok_callV (d := ((d + 11) + 2)) (mt := m8_addToken) (mc := 0) (ms := 0) (As := [.int 27, .int (I b0 4), .int 0]) (r := []) dX8_cut_190 mo8_addToken mv8_addToken lkRX8_43 rfl hZ_b0 (q := (RX8, TX8, 6)) rfl rfl rfl (Nat.le_of_ble_eq_true rfl) (by show _ + 1 ≤ d + _; omega) (Nat.le_refl _) (Nat.le_refl _) (pRt_mono ?_)
      refine k8_addToken (d + 11) hW hZ_b0 hr3 ?_
      intro _
      show Ok g _ Qx 193 [(0, .ref b0), (1, .int y1), (2, .int y2)] [] (Z, r2, L, O)
      cases h
      exact ok_vret dX8_cut_193 hQ
    · have h := (if_neg hc1).symm.trans h
      refine ok_iload_n dX8_cut_17 2 rfl ?_
      refine ok_sipush (v := 300) dX8_cut_18 (by decide) ?_
      refine ok_icmp_ge (t := 182) dX8_cut_21 (by decide) (fun hc4 => ?_) (fun hc4 => ?_)
      · have h := (if_pos hc4).symm.trans h
        refine ok_aload_n dX8_cut_182 0 rfl ?_
        refine ok_bipush (v := 27) dX8_cut_183 (by decide) ?_
        refine ok_aload_n dX8_cut_185 0 rfl ?_
        refine ok_getI (ci := 8) (k := 4) dX8_cut_186 flRX8_24 rfl hZ_b0 (by decide) ?_
        refine ok_iconst (v := 0) dX8_cut_189 (by decide) ?_
        obtain ⟨r5, hr6, h⟩ := bd h
        refine ok_callV (d := ((d + 11) + 2)) (mt := m8_addToken) (mc := 0) (ms := 0) (As := [.int 27, .int (I b0 4), .int 0]) (r := []) dX8_cut_190 mo8_addToken mv8_addToken lkRX8_43 rfl hZ_b0 (q := (RX8, TX8, 6)) rfl rfl rfl (Nat.le_of_ble_eq_true rfl) (by show _ + 1 ≤ d + _; omega) (Nat.le_refl _) (Nat.le_refl _) (pRt_mono ?_)
        refine k8_addToken (d + 11) hW hZ_b0 hr6 ?_
        intro _
        show Ok g _ Qx 193 [(0, .ref b0), (1, .int y1), (2, .int y2)] [] (Z, r5, L, O)
        cases h
        exact ok_vret dX8_cut_193 hQ
      · have h := (if_neg hc4).symm.trans h
        refine ok_aload_n dX8_cut_24 0 rfl ?_
        have hT7 : Z[(rO O b0 0)]? = some (13, 300) := (wt_f (ci := 8) (k := 0) hW hZ_b0 rfl).2
        refine ok_getR (ci := 8) (k := 0) dX8_cut_25 flRX8_9 rfl hW hZ_b0 (by decide) ?_
        refine ok_iload_n dX8_cut_28 2 rfl ?_
        obtain ⟨hg8, h⟩ := gd h
        refine ok_iald2 (N := y2.toNatClampNeg) dX8_cut_29 hT7 hg8 rfl ?_
        obtain ⟨z9, ez9, h⟩ := blE h
        refine ok_nm ez9 ?_
        refine ok_istore_n (l' := [(3, .int z9), (0, .ref b0), (1, .int y1), (2, .int y2)]) dX8_cut_30 rfl (Nat.le_of_ble_eq_true rfl) rfl ?_
        refine ok_iload_n dX8_cut_31 0 rfl ?_
        obtain ⟨r10, hr11, h⟩ := bd h
        refine ok_callS (d := ((d + 11) + 2)) (mt := m8_isLetter) (mc := 0) (ms := 0) (As := [.int z9]) (r := []) dX8_cut_32 mo8_isLetter mv8_isLetter lkRX8_31 rfl rfl (Nat.le_of_ble_eq_true rfl) (by show _ + 1 ≤ d + _; omega) (Nat.le_refl _) (Nat.le_refl _) (pRt_mono ?_)
        refine k8_isLetter (d + 11) hW  hr11 ?_
        intro hbr10
        show Ok g _ Qx 35 [(3, .int z9), (0, .ref b0), (1, .int y1), (2, .int y2)] [.int r10] (Z, I, L, O)
        refine ok_if_eq (t := 59) dX8_cut_35 (by decide) (fun hc12 => ?_) (fun hc12 => ?_)
        · have h := (if_pos hc12).symm.trans h
          refine ok_iload_n dX8_cut_59 0 rfl ?_
          obtain ⟨r13, hr14, h⟩ := bd h
          refine ok_callS (d := ((d + 11) + 2)) (mt := m8_isDigit) (mc := 0) (ms := 0) (As := [.int z9]) (r := []) dX8_cut_60 mo8_isDigit mv8_isDigit lkRX8_47 rfl rfl (Nat.le_of_ble_eq_true rfl) (by show _ + 1 ≤ d + _; omega) (Nat.le_refl _) (Nat.le_refl _) (pRt_mono ?_)
          refine k8_isDigit (d + 11) hW  hr14 ?_
          intro hbr13
          show Ok g _ Qx 63 [(3, .int z9), (0, .ref b0), (1, .int y1), (2, .int y2)] [.int r13] (Z, I, L, O)
          refine ok_if_eq (t := 88) dX8_cut_63 (by decide) (fun hc15 => ?_) (fun hc15 => ?_)
          · have h := (if_pos hc15).symm.trans h
            refine ok_iload_n dX8_cut_88 0 rfl ?_
            refine ok_bipush (v := 60) dX8_cut_89 (by decide) ?_
            refine ok_icmp_eq (t := 100) dX8_cut_91 (by decide) (fun hc16 => ?_) (fun hc16 => ?_)
            · have h := (if_pos hc16).symm.trans h
              refine ok_sub [1, 2, 3, 0] rfl ?_
              exact o8_cut_c100 d hW hStr hQ ih I b0 y1 y2 z9 hZ_b0 h
            · have h := (if_neg hc16).symm.trans h
              refine ok_iload_n dX8_cut_94 0 rfl ?_
              refine ok_bipush (v := 62) dX8_cut_95 (by decide) ?_
              refine ok_icmp_ne (t := 140) dX8_cut_97 (by decide) (fun hc17 => ?_) (fun hc17 => ?_)
              · have h := (if_neg hc17).symm.trans h
                refine ok_sub [1, 2, 3, 0] rfl ?_
                exact o8_cut_c140 d hW hStr hQ ih I b0 y1 y2 z9 hZ_b0 h
              · have h := (if_pos hc17).symm.trans h
                refine ok_sub [1, 2, 3, 0] rfl ?_
                exact o8_cut_c100 d hW hStr hQ ih I b0 y1 y2 z9 hZ_b0 h
          · have h := (if_neg hc15).symm.trans h
            refine ok_aload_n dX8_cut_66 1 rfl ?_
            refine ok_iload_n dX8_cut_67 3 rfl ?_
            obtain ⟨r18, hr19, h⟩ := bd h
            refine ok_callV (d := ((d + 10) + 3)) (mt := m8_numberEnd) (mc := 0) (ms := 0) (As := [.int y2]) (r := []) dX8_cut_68 mo8_numberEnd mv8_numberEnd lkRX8_50 rfl hZ_b0 (q := (RX8, TX8, 6)) rfl rfl rfl (Nat.le_of_ble_eq_true rfl) (by show _ + 1 ≤ d + _; omega) (Nat.le_refl _) (Nat.le_refl _) (pRt_mono ?_)
            refine k8_numberEnd (d + 10) hW hZ_b0 hr19 ?_
            intro _
            show Ok g _ Qx 71 [(3, .int z9), (0, .ref b0), (1, .int y1), (2, .int y2)] [.int r18] (Z, I, L, O)
            refine ok_istore_n (l' := [(1, .int r18), (3, .int z9), (0, .ref b0), (2, .int y2)]) dX8_cut_71 rfl (Nat.le_of_ble_eq_true rfl) rfl ?_
            refine ok_aload_n dX8_cut_72 2 rfl ?_
            refine ok_bipush (v := 28) dX8_cut_73 (by decide) ?_
            refine ok_iload_n dX8_cut_75 3 rfl ?_
            refine ok_aload_n dX8_cut_76 2 rfl ?_
            refine ok_iload_n dX8_cut_77 3 rfl ?_
            refine ok_iload_n dX8_cut_78 0 rfl ?_
            obtain ⟨r20, hr21, h⟩ := bd h
            refine ok_callV (d := ((d + 10) + 3)) (mt := m8_numberOf) (mc := 0) (ms := 0) (As := [.int y2, .int r18]) (r := [.int y2, .int 28, .ref b0]) dX8_cut_79 mo8_numberOf mv8_numberOf lkRX8_53 rfl hZ_b0 (q := (RX8, TX8, 6)) rfl rfl rfl (Nat.le_of_ble_eq_true rfl) (by show _ + 1 ≤ d + _; omega) (Nat.le_refl _) (Nat.le_refl _) (pRt_mono ?_)
            refine k8_numberOf (d + 10) hW hZ_b0 hr21 ?_
            intro _
            show Ok g _ Qx 82 [(1, .int r18), (3, .int z9), (0, .ref b0), (2, .int y2)] [.int r20, .int y2, .int 28, .ref b0] (Z, I, L, O)
            obtain ⟨r22, hr23, h⟩ := bd h
            refine ok_callV (d := ((d + 11) + 2)) (mt := m8_addToken) (mc := 0) (ms := 0) (As := [.int 28, .int y2, .int r20]) (r := []) dX8_cut_82 mo8_addToken mv8_addToken lkRX8_43 rfl hZ_b0 (q := (RX8, TX8, 6)) rfl rfl rfl (Nat.le_of_ble_eq_true rfl) (by show _ + 1 ≤ d + _; omega) (Nat.le_refl _) (Nat.le_refl _) (pRt_mono ?_)
            refine k8_addToken (d + 11) hW hZ_b0 hr23 ?_
            intro _
            show Ok g _ Qx 85 [(1, .int r18), (3, .int z9), (0, .ref b0), (2, .int y2)] [] (Z, r22, L, O)
            refine ok_goto (t := 171) dX8_cut_85 (by decide) ?_
            refine ok_iload_n dX8_cut_171 3 rfl ?_
            refine ok_iconst (v := 1) dX8_cut_172 (by decide) ?_
            refine ok_iadd dX8_cut_173 ?_
            refine ok_iload_n dX8_cut_174 0 rfl ?_
            obtain ⟨r24, hr25, h⟩ := bd h
            refine ok_callS (d := ((d + 11) + 2)) (mt := mJ9_max_7cf53) (mc := 0) (ms := 0) (As := [.int (y2 + 1), .int r18]) (r := []) dX8_cut_175 moJ9_max_7cf53 mvJ9_max_7cf53 lkRX8_62 rfl rfl (Nat.le_of_ble_eq_true rfl) (by show _ + 1 ≤ d + _; omega) (Nat.le_refl _) (Nat.le_refl _) (pRt_mono ?_)
            refine kJ9_max_7cf53 (d + 11) hW  hr25 ?_
            intro _
            show Ok g _ Qx 178 [(1, .int r18), (3, .int z9), (0, .ref b0), (2, .int y2)] [.int r24] (Z, r22, L, O)
            refine ok_istore_n (l' := [(2, .int r24), (1, .int r18), (3, .int z9), (0, .ref b0)]) dX8_cut_178 rfl (Nat.le_of_ble_eq_true rfl) rfl ?_
            refine ok_goto (t := 9) dX8_cut_179 (by decide) ?_
            refine ok_sub [3, 1, 0] rfl ?_
            exact ih r22 b0 r18 r24 hZ_b0 h
        · have h := (if_neg hc12).symm.trans h
          refine ok_aload_n dX8_cut_38 1 rfl ?_
          refine ok_iload_n dX8_cut_39 3 rfl ?_
          obtain ⟨r26, hr27, h⟩ := bd h
          refine ok_callV (d := ((d + 10) + 3)) (mt := m8_wordEnd) (mc := 0) (ms := 0) (As := [.int y2]) (r := []) dX8_cut_40 mo8_wordEnd mv8_wordEnd lkRX8_35 rfl hZ_b0 (q := (RX8, TX8, 6)) rfl rfl rfl (Nat.le_of_ble_eq_true rfl) (by show _ + 1 ≤ d + _; omega) (Nat.le_refl _) (Nat.le_refl _) (pRt_mono ?_)
          refine k8_wordEnd (d + 10) hW hZ_b0 hr27 ?_
          intro _
          show Ok g _ Qx 43 [(3, .int z9), (0, .ref b0), (1, .int y1), (2, .int y2)] [.int r26] (Z, I, L, O)
          refine ok_istore_n (l' := [(1, .int r26), (3, .int z9), (0, .ref b0), (2, .int y2)]) dX8_cut_43 rfl (Nat.le_of_ble_eq_true rfl) rfl ?_
          refine ok_aload_n dX8_cut_44 2 rfl ?_
          refine ok_aload_n dX8_cut_45 2 rfl ?_
          refine ok_iload_n dX8_cut_46 3 rfl ?_
          refine ok_iload_n dX8_cut_47 0 rfl ?_
          obtain ⟨r28, hr29, h⟩ := bd h
          refine ok_callV (d := ((d + 0) + 13)) (mt := m8_wordNumber) (mc := 0) (ms := 0) (As := [.int y2, .int r26]) (r := [.ref b0]) dX8_cut_48 mo8_wordNumber mv8_wordNumber lkRX8_39 rfl hZ_b0 (q := (RX8, TX8, 6)) rfl rfl rfl (Nat.le_of_ble_eq_true rfl) (by show _ + 1 ≤ d + _; omega) (Nat.le_refl _) (Nat.le_refl _) (pRt_mono ?_)
          refine k8_wordNumber (d + 0) hW hStr hZ_b0 hr29 ?_
          intro _
          show Ok g _ Qx 51 [(1, .int r26), (3, .int z9), (0, .ref b0), (2, .int y2)] [.int r28, .ref b0] (Z, I, L, O)
          refine ok_iload_n dX8_cut_51 3 rfl ?_
          refine ok_iconst (v := 0) dX8_cut_52 (by decide) ?_
          obtain ⟨r30, hr31, h⟩ := bd h
          refine ok_callV (d := ((d + 11) + 2)) (mt := m8_addToken) (mc := 0) (ms := 0) (As := [.int r28, .int y2, .int 0]) (r := []) dX8_cut_53 mo8_addToken mv8_addToken lkRX8_43 rfl hZ_b0 (q := (RX8, TX8, 6)) rfl rfl rfl (Nat.le_of_ble_eq_true rfl) (by show _ + 1 ≤ d + _; omega) (Nat.le_refl _) (Nat.le_refl _) (pRt_mono ?_)
          refine k8_addToken (d + 11) hW hZ_b0 hr31 ?_
          intro _
          show Ok g _ Qx 56 [(1, .int r26), (3, .int z9), (0, .ref b0), (2, .int y2)] [] (Z, r30, L, O)
          refine ok_goto (t := 171) dX8_cut_56 (by decide) ?_
          refine ok_iload_n dX8_cut_171 3 rfl ?_
          refine ok_iconst (v := 1) dX8_cut_172 (by decide) ?_
          refine ok_iadd dX8_cut_173 ?_
          refine ok_iload_n dX8_cut_174 0 rfl ?_
          obtain ⟨r32, hr33, h⟩ := bd h
          refine ok_callS (d := ((d + 11) + 2)) (mt := mJ9_max_7cf53) (mc := 0) (ms := 0) (As := [.int (y2 + 1), .int r26]) (r := []) dX8_cut_175 moJ9_max_7cf53 mvJ9_max_7cf53 lkRX8_62 rfl rfl (Nat.le_of_ble_eq_true rfl) (by show _ + 1 ≤ d + _; omega) (Nat.le_refl _) (Nat.le_refl _) (pRt_mono ?_)
          refine kJ9_max_7cf53 (d + 11) hW  hr33 ?_
          intro _
          show Ok g _ Qx 178 [(1, .int r26), (3, .int z9), (0, .ref b0), (2, .int y2)] [.int r32] (Z, r30, L, O)
          refine ok_istore_n (l' := [(2, .int r32), (1, .int r26), (3, .int z9), (0, .ref b0)]) dX8_cut_178 rfl (Nat.le_of_ble_eq_true rfl) rfl ?_
          refine ok_goto (t := 9) dX8_cut_179 (by decide) ?_
          refine ok_sub [3, 1, 0] rfl ?_
          exact ih r30 b0 r26 r32 hZ_b0 h
def f8_cut (n : Nat) (I : (Nat → Nat → Int32)) (O : (Nat → Nat → Option Nat)) (a0 : Nat) : Option ((Nat → Nat → Int32)) := bl (sI I a0 5 (0 : Int32)) fun I1 => f8_cut_c9 n O n I1 a0 (0 : Int32) (0 : Int32)
set_option maxHeartbeats 4000000 in
set_option maxRecDepth 20000 in
theorem o8_cut {g : pG} {Qx : Option Value → pW → Prop} {Z : pZ} {I : (Nat → Nat → Int32)} {L : (Nat → Nat → Int64)} {O : (Nat → Nat → Option Nat)} {n : Nat} {a0 : Nat} {res : (Nat → Nat → Int32)} (d : Nat) (hW : WT Z O) (hStr : StrOK g) (hZ0 : Z[a0]? = some (8, 6)) (h : f8_cut n I O a0 = some res) (hQ : Qx none (Z, res, L, O)) : Ok g (d + 14, RX8, cX8_cut, 4, false, 0, 0, Z.length, pSl Z) Qx 0 [(0, .ref a0)] [] (Z, I, L, O) := by
  unfold f8_cut at h
  refine ok_aload_n dX8_cut_0 0 rfl ?_
  refine ok_iconst (v := 0) dX8_cut_1 (by decide) ?_
  obtain ⟨I1, eI1, h⟩ := blE h
  refine ok_putI2 (ci := 8) (k := 5) dX8_cut_2 flRX8_28 rfl (Or.inl rfl) hZ0 (by decide) eI1 ?_
  refine ok_iconst (v := 0) dX8_cut_5 (by decide) ?_
  refine ok_istore_n (l' := [(1, .int 0), (0, .ref a0)]) dX8_cut_6 rfl (Nat.le_of_ble_eq_true rfl) rfl ?_
  refine ok_iconst (v := 0) dX8_cut_7 (by decide) ?_
  refine ok_istore_n (l' := [(2, .int 0), (1, .int 0), (0, .ref a0)]) dX8_cut_8 rfl (Nat.le_of_ble_eq_true rfl) rfl ?_
  refine ok_sub [2, 1, 0] rfl ?_
  exact o8_cut_c9 d hW hStr hQ  n I1 a0 (0 : Int32) (0 : Int32) hZ0 h
theorem k8_cut {g : pG} {Q : Option Value → pW → Prop} {Z : pZ} {I : (Nat → Nat → Int32)} {L : (Nat → Nat → Int64)} {O : (Nat → Nat → Option Nat)} {n : Nat} {a0 : Nat} {res : (Nat → Nat → Int32)} (d : Nat) (hW : WT Z O) (hStr : StrOK g) (hZ0 : Z[a0]? = some (8, 6)) (h : f8_cut n I O a0 = some res) (hQ : Q none (Z, res, L, O)) : CT g (d + 14) m8_cut 0 0 [.ref a0] (Z, I, L, O) Q :=
  ct_of_ok (mt := m8_cut) (ini := false) mo8_cut.2.2.2.2 (fun h => by cases h) (Nat.le_of_ble_eq_true rfl) (o8_cut d hW hStr hZ0 h ⟨trivial, hQ, rfl, rfl⟩)
