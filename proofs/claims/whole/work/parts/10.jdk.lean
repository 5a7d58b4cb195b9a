theorem dJ6_bitCount_0f7a4_0 : decode cJ6_bitCount_0f7a4 0 = .ok (.iload_n 0, 1) := by decide +kernel
theorem dJ6_bitCount_0f7a4_1 : decode cJ6_bitCount_0f7a4 1 = .ok (.iload_n 0, 1) := by decide +kernel
theorem dJ6_bitCount_0f7a4_2 : decode cJ6_bitCount_0f7a4 2 = .ok (.iconst 1, 1) := by decide +kernel
theorem dJ6_bitCount_0f7a4_3 : decode cJ6_bitCount_0f7a4 3 = .ok (.iushr, 1) := by decide +kernel
theorem dJ6_bitCount_0f7a4_4 : decode cJ6_bitCount_0f7a4 4 = .ok (.ldc_w 265, 3) := by decide +kernel
theorem dJ6_bitCount_0f7a4_7 : decode cJ6_bitCount_0f7a4 7 = .ok (.iand, 1) := by decide +kernel
theorem dJ6_bitCount_0f7a4_8 : decode cJ6_bitCount_0f7a4 8 = .ok (.isub, 1) := by decide +kernel
theorem dJ6_bitCount_0f7a4_9 : decode cJ6_bitCount_0f7a4 9 = .ok (.istore_n 0, 1) := by decide +kernel
theorem dJ6_bitCount_0f7a4_10 : decode cJ6_bitCount_0f7a4 10 = .ok (.iload_n 0, 1) := by decide +kernel
theorem dJ6_bitCount_0f7a4_11 : decode cJ6_bitCount_0f7a4 11 = .ok (.ldc_w 266, 3) := by decide +kernel
theorem dJ6_bitCount_0f7a4_14 : decode cJ6_bitCount_0f7a4 14 = .ok (.iand, 1) := by decide +kernel
theorem dJ6_bitCount_0f7a4_15 : decode cJ6_bitCount_0f7a4 15 = .ok (.iload_n 0, 1) := by decide +kernel
theorem dJ6_bitCount_0f7a4_16 : decode cJ6_bitCount_0f7a4 16 = .ok (.iconst 2, 1) := by decide +kernel
theorem dJ6_bitCount_0f7a4_17 : decode cJ6_bitCount_0f7a4 17 = .ok (.iushr, 1) := by decide +kernel
theorem dJ6_bitCount_0f7a4_18 : decode cJ6_bitCount_0f7a4 18 = .ok (.ldc_w 266, 3) := by decide +kernel
theorem dJ6_bitCount_0f7a4_21 : decode cJ6_bitCount_0f7a4 21 = .ok (.iand, 1) := by decide +kernel
theorem dJ6_bitCount_0f7a4_22 : decode cJ6_bitCount_0f7a4 22 = .ok (.iadd, 1) := by decide +kernel
theorem dJ6_bitCount_0f7a4_23 : decode cJ6_bitCount_0f7a4 23 = .ok (.istore_n 0, 1) := by decide +kernel
theorem dJ6_bitCount_0f7a4_24 : decode cJ6_bitCount_0f7a4 24 = .ok (.iload_n 0, 1) := by decide +kernel
theorem dJ6_bitCount_0f7a4_25 : decode cJ6_bitCount_0f7a4 25 = .ok (.iload_n 0, 1) := by decide +kernel
theorem dJ6_bitCount_0f7a4_26 : decode cJ6_bitCount_0f7a4 26 = .ok (.iconst 4, 1) := by decide +kernel
theorem dJ6_bitCount_0f7a4_27 : decode cJ6_bitCount_0f7a4 27 = .ok (.iushr, 1) := by decide +kernel
theorem dJ6_bitCount_0f7a4_28 : decode cJ6_bitCount_0f7a4 28 = .ok (.iadd, 1) := by decide +kernel
theorem dJ6_bitCount_0f7a4_29 : decode cJ6_bitCount_0f7a4 29 = .ok (.ldc_w 267, 3) := by decide +kernel
theorem dJ6_bitCount_0f7a4_32 : decode cJ6_bitCount_0f7a4 32 = .ok (.iand, 1) := by decide +kernel
theorem dJ6_bitCount_0f7a4_33 : decode cJ6_bitCount_0f7a4 33 = .ok (.istore_n 0, 1) := by decide +kernel
theorem dJ6_bitCount_0f7a4_34 : decode cJ6_bitCount_0f7a4 34 = .ok (.iload_n 0, 1) := by decide +kernel
theorem dJ6_bitCount_0f7a4_35 : decode cJ6_bitCount_0f7a4 35 = .ok (.iload_n 0, 1) := by decide +kernel
theorem dJ6_bitCount_0f7a4_36 : decode cJ6_bitCount_0f7a4 36 = .ok (.bipush 8, 2) := by decide +kernel
theorem dJ6_bitCount_0f7a4_38 : decode cJ6_bitCount_0f7a4 38 = .ok (.iushr, 1) := by decide +kernel
theorem dJ6_bitCount_0f7a4_39 : decode cJ6_bitCount_0f7a4 39 = .ok (.iadd, 1) := by decide +kernel
theorem dJ6_bitCount_0f7a4_40 : decode cJ6_bitCount_0f7a4 40 = .ok (.istore_n 0, 1) := by decide +kernel
theorem dJ6_bitCount_0f7a4_41 : decode cJ6_bitCount_0f7a4 41 = .ok (.iload_n 0, 1) := by decide +kernel
theorem dJ6_bitCount_0f7a4_42 : decode cJ6_bitCount_0f7a4 42 = .ok (.iload_n 0, 1) := by decide +kernel
theorem dJ6_bitCount_0f7a4_43 : decode cJ6_bitCount_0f7a4 43 = .ok (.bipush 16, 2) := by decide +kernel
theorem dJ6_bitCount_0f7a4_45 : decode cJ6_bitCount_0f7a4 45 = .ok (.iushr, 1) := by decide +kernel
theorem dJ6_bitCount_0f7a4_46 : decode cJ6_bitCount_0f7a4 46 = .ok (.iadd, 1) := by decide +kernel
theorem dJ6_bitCount_0f7a4_47 : decode cJ6_bitCount_0f7a4 47 = .ok (.istore_n 0, 1) := by decide +kernel
theorem dJ6_bitCount_0f7a4_48 : decode cJ6_bitCount_0f7a4 48 = .ok (.iload_n 0, 1) := by decide +kernel
theorem dJ6_bitCount_0f7a4_49 : decode cJ6_bitCount_0f7a4 49 = .ok (.bipush 63, 2) := by decide +kernel
theorem dJ6_bitCount_0f7a4_51 : decode cJ6_bitCount_0f7a4 51 = .ok (.iand, 1) := by decide +kernel
theorem dJ6_bitCount_0f7a4_52 : decode cJ6_bitCount_0f7a4 52 = .ok (.ireturn, 1) := by decide +kernel
theorem wi_RJ6 : Cond.initialized RJ6 ∈ lw_tbl := tb_i 21 (by decide +kernel)
theorem wn_RJ6 : RJ6 ≠ "java/lang/invoke/MethodHandle" ∧ RJ6 ≠ "java/lang/invoke/VarHandle" := ⟨by decide +kernel, by decide +kernel⟩
def mJ6_bitCount_0f7a4 : pMT := (yJ6_bitCount_0f7a4, cJ6_bitCount_0f7a4, 1, some .int)
theorem moJ6_bitCount_0f7a4 : mOK mJ6_bitCount_0f7a4 1 := ⟨tb_i 1114 (by decide +kernel), wi_RJ6, ⟨wn_RJ6.1, wn_RJ6.2, by decide +kernel⟩, by decide, by decide +kernel⟩
theorem mvJ6_bitCount_0f7a4 : mS mJ6_bitCount_0f7a4 := (tb_i 1113 (by decide +kernel) : Cond.static yJ6_bitCount_0f7a4 ∈ lw_tbl)
def fJ6_bitCount_0f7a4 (x0 : Int32) : Option (Int32) := bl ((x0 - ((x0.toUInt32 >>> ((1 : Int32).toUInt32 &&& Int32.toUInt32 31)).toInt32 &&& 1431655765)) : Int32) fun z1 => bl (((z1 &&& 858993459) + ((z1.toUInt32 >>> ((2 : Int32).toUInt32 &&& Int32.toUInt32 31)).toInt32 &&& 858993459)) : Int32) fun z2 => bl (((z2 + (z2.toUInt32 >>> ((4 : Int32).toUInt32 &&& Int32.toUInt32 31)).toInt32) &&& 252645135) : Int32) fun z3 => bl ((z3 + (z3.toUInt32 >>> ((8 : Int32).toUInt32 &&& Int32.toUInt32 31)).toInt32) : Int32) fun z4 => bl ((z4 + (z4.toUInt32 >>> ((16 : Int32).toUInt32 &&& Int32.toUInt32 31)).toInt32) : Int32) fun z5 => some ((z5 &&& 63))
set_option maxHeartbeats 4000000 in
set_option maxRecDepth 20000 in
theorem oJ6_bitCount_0f7a4 {g : pG} {Qx : Option Value → pW → Prop} {Z : pZ} {I : (Nat → Nat → Int32)} {L : (Nat → Nat → Int64)} {O : (Nat → Nat → Option Nat)} {x0 : Int32} {res : Int32} (d : Nat) (hW : WT Z O) (h : fJ6_bitCount_0f7a4 x0 = some res) (hQ : Qx (some (.int res)) (Z, I, L, O)) : Ok g (d + 2, RJ6, cJ6_bitCount_0f7a4, 1, false, 0, 0, Z.length, pSl Z) Qx 0 [(0, .int x0)] [] (Z, I, L, O) := by
  unfold fJ6_bitCount_0f7a4 at h
  refine ok_iload_n dJ6_bitCount_0f7a4_0 0 rfl ?_
  refine ok_iload_n dJ6_bitCount_0f7a4_1 0 rfl ?_
  refine ok_iconst (v := 1) dJ6_bitCount_0f7a4_2 (by decide) ?_
  refine ok_iushr dJ6_bitCount_0f7a4_3 ?_
  refine ok_ldcw (v := 1431655765) dJ6_bitCount_0f7a4_4 (tb_i (c := Cond.constant RJ6 265 (1431655765)) 1115 (by decide +kernel)) ?_
  refine ok_iand dJ6_bitCount_0f7a4_7 ?_
  refine ok_isub dJ6_bitCount_0f7a4_8 ?_
  obtain ⟨z1, ez1, h⟩ := blE h
  refine ok_nm ez1 ?_
  refine ok_istore_n (l' := [(0, .int z1)]) dJ6_bitCount_0f7a4_9 rfl (Nat.le_of_ble_eq_true rfl) rfl ?_
  refine ok_iload_n dJ6_bitCount_0f7a4_10 0 rfl ?_
  refine ok_ldcw (v := 858993459) dJ6_bitCount_0f7a4_11 (tb_i (c := Cond.constant RJ6 266 (858993459)) 1116 (by decide +kernel)) ?_
  refine ok_iand dJ6_bitCount_0f7a4_14 ?_
  refine ok_iload_n dJ6_bitCount_0f7a4_15 0 rfl ?_
  refine ok_iconst (v := 2) dJ6_bitCount_0f7a4_16 (by decide) ?_
  refine ok_iushr dJ6_bitCount_0f7a4_17 ?_
  refine ok_ldcw (v := 858993459) dJ6_bitCount_0f7a4_18 (tb_i (c := Cond.constant RJ6 266 (858993459)) 1116 (by decide +kernel)) ?_
  refine ok_iand dJ6_bitCount_0f7a4_21 ?_
  refine ok_iadd dJ6_bitCount_0f7a4_22 ?_
  obtain ⟨z2, ez2, h⟩ := blE h
  refine ok_nm ez2 ?_
  refine ok_istore_n (l' := [(0, .int z2)]) dJ6_bitCount_0f7a4_23 rfl (Nat.le_of_ble_eq_true rfl) rfl ?_
  refine ok_iload_n dJ6_bitCount_0f7a4_24 0 rfl ?_
  refine ok_iload_n dJ6_bitCount_0f7a4_25 0 rfl ?_
  refine ok_iconst (v := 4) dJ6_bitCount_0f7a4_26 (by decide) ?_
  refine ok_iushr dJ6_bitCount_0f7a4_27 ?_
  refine ok_iadd dJ6_bitCount_0f7a4_28 ?_
  refine ok_ldcw (v := 252645135) dJ6_bitCount_0f7a4_29 (tb_i (c := Cond.constant RJ6 267 (252645135)) 1117 (by decide +kernel)) ?_
  refine ok_iand dJ6_bitCount_0f7a4_32 ?_
  obtain ⟨z3, ez3, h⟩ := blE h
  refine ok_nm ez3 ?_
  refine ok_istore_n (l' := [(0, .int z3)]) dJ6_bitCount_0f7a4_33 rfl (Nat.le_of_ble_eq_true rfl) rfl ?_
  refine ok_iload_n dJ6_bitCount_0f7a4_34 0 rfl ?_
  refine ok_iload_n dJ6_bitCount_0f7a4_35 0 rfl ?_
  refine ok_bipush (v := 8) dJ6_bitCount_0f7a4_36 (by decide) ?_
  refine ok_iushr dJ6_bitCount_0f7a4_38 ?_
  refine ok_iadd dJ6_bitCount_0f7a4_39 ?_
  obtain ⟨z4, ez4, h⟩ := blE h
  refine ok_nm ez4 ?_
  refine ok_istore_n (l' := [(0, .int z4)]) dJ6_bitCount_0f7a4_40 rfl (Nat.le_of_ble_eq_true rfl) rfl ?_
  refine ok_iload_n dJ6_bitCount_0f7a4_41 0 rfl ?_
  refine ok_iload_n dJ6_bitCount_0f7a4_42 0 rfl ?_
  refine ok_bipush (v := 16) dJ6_bitCount_0f7a4_43 (by decide) ?_
  refine ok_iushr dJ6_bitCount_0f7a4_45 ?_
  refine ok_iadd dJ6_bitCount_0f7a4_46 ?_
  obtain ⟨z5, ez5, h⟩ := blE h
  refine ok_nm ez5 ?_
  refine ok_istore_n (l' := [(0, .int z5)]) dJ6_bitCount_0f7a4_47 rfl (Nat.le_of_ble_eq_true rfl) rfl ?_
  refine ok_iload_n dJ6_bitCount_0f7a4_48 0 rfl ?_
  refine ok_bipush (v := 63) dJ6_bitCount_0f7a4_49 (by decide) ?_
  refine ok_iand dJ6_bitCount_0f7a4_51 ?_
  cases h
  exact ok_iret dJ6_bitCount_0f7a4_52 hQ
theorem kJ6_bitCount_0f7a4 {g : pG} {Q : Option Value → pW → Prop} {Z : pZ} {I : (Nat → Nat → Int32)} {L : (Nat → Nat → Int64)} {O : (Nat → Nat → Option Nat)} {x0 : Int32} {res : Int32} (d : Nat) (hW : WT Z O) (h : fJ6_bitCount_0f7a4 x0 = some res) (hQ : Q (some (.int res)) (Z, I, L, O)) : CT g (d + 2) mJ6_bitCount_0f7a4 0 0 [.int x0] (Z, I, L, O) Q :=
  ct_of_ok (mt := mJ6_bitCount_0f7a4) (ini := false) moJ6_bitCount_0f7a4.2.2.2.2 (fun h => by cases h) (Nat.le_of_ble_eq_true rfl) (oJ6_bitCount_0f7a4 d hW  h ⟨trivial, hQ, rfl, rfl⟩)
theorem dJ9_floorMod_7cf53_0 : decode cJ9_floorMod_7cf53 0 = .ok (.iload_n 0, 1) := by decide +kernel
theorem dJ9_floorMod_7cf53_1 : decode cJ9_floorMod_7cf53 1 = .ok (.iload_n 1, 1) := by decide +kernel
theorem dJ9_floorMod_7cf53_2 : decode cJ9_floorMod_7cf53 2 = .ok (.irem, 1) := by decide +kernel
theorem dJ9_floorMod_7cf53_3 : decode cJ9_floorMod_7cf53 3 = .ok (.istore_n 2, 1) := by decide +kernel
theorem dJ9_floorMod_7cf53_4 : decode cJ9_floorMod_7cf53 4 = .ok (.iload_n 0, 1) := by decide +kernel
theorem dJ9_floorMod_7cf53_5 : decode cJ9_floorMod_7cf53 5 = .ok (.iload_n 1, 1) := by decide +kernel
theorem dJ9_floorMod_7cf53_6 : decode cJ9_floorMod_7cf53 6 = .ok (.ixor, 1) := by decide +kernel
theorem dJ9_floorMod_7cf53_7 : decode cJ9_floorMod_7cf53 7 = .ok (.ifCond .ge 11, 3) := by decide +kernel
theorem dJ9_floorMod_7cf53_10 : decode cJ9_floorMod_7cf53 10 = .ok (.iload_n 2, 1) := by decide +kernel
theorem dJ9_floorMod_7cf53_11 : decode cJ9_floorMod_7cf53 11 = .ok (.ifCond .eq 7, 3) := by decide +kernel
theorem dJ9_floorMod_7cf53_14 : decode cJ9_floorMod_7cf53 14 = .ok (.iload_n 2, 1) := by decide +kernel
theorem dJ9_floorMod_7cf53_15 : decode cJ9_floorMod_7cf53 15 = .ok (.iload_n 1, 1) := by decide +kernel
theorem dJ9_floorMod_7cf53_16 : decode cJ9_floorMod_7cf53 16 = .ok (.iadd, 1) := by decide +kernel
theorem dJ9_floorMod_7cf53_17 : decode cJ9_floorMod_7cf53 17 = .ok (.ireturn, 1) := by decide +kernel
theorem dJ9_floorMod_7cf53_18 : decode cJ9_floorMod_7cf53 18 = .ok (.iload_n 2, 1) := by decide +kernel
theorem dJ9_floorMod_7cf53_19 : decode cJ9_floorMod_7cf53 19 = .ok (.ireturn, 1) := by decide +kernel
theorem wi_RJ9 : Cond.initialized RJ9 ∈ lw_tbl := tb_i 18 (by decide +kernel)
theorem wn_RJ9 : RJ9 ≠ "java/lang/invoke/MethodHandle" ∧ RJ9 ≠ "java/lang/invoke/VarHandle" := ⟨by decide +kernel, by decide +kernel⟩
def mJ9_floorMod_7cf53 : pMT := (yJ9_floorMod_7cf53, cJ9_floorMod_7cf53, 3, some .int)
theorem moJ9_floorMod_7cf53 : mOK mJ9_floorMod_7cf53 2 := ⟨tb_i 683 (by decide +kernel), wi_RJ9, ⟨wn_RJ9.1, wn_RJ9.2, by decide +kernel⟩, by decide, by decide +kernel⟩
theorem mvJ9_floorMod_7cf53 : mS mJ9_floorMod_7cf53 := (tb_i 682 (by decide +kernel) : Cond.static yJ9_floorMod_7cf53 ∈ lw_tbl)
def fJ9_floorMod_7cf53 (x0 : Int32) (x1 : Int32) : Option (Int32) := if x1 = 0 then none else (if 0 ≤ (x0 ^^^ x1) then some ((x0 - x0 / x1 * x1)) else (if (x0 - x0 / x1 * x1) = 0 then some ((x0 - x0 / x1 * x1)) else some (((x0 - x0 / x1 * x1) + x1))))
set_option maxHeartbeats 4000000 in
set_option maxRecDepth 20000 in
theorem oJ9_floorMod_7cf53 {g : pG} {Qx : Option Value → pW → Prop} {Z : pZ} {I : (Nat → Nat → Int32)} {L : (Nat → Nat → Int64)} {O : (Nat → Nat → Option Nat)} {x0 : Int32} {x1 : Int32} {res : Int32} (d : Nat) (hW : WT Z O) (h : fJ9_floorMod_7cf53 x0 x1 = some res) (hQ : Qx (some (.int res)) (Z, I, L, O)) : Ok g (d + 2, RJ9, cJ9_floorMod_7cf53, 3, false, 0, 0, Z.length, pSl Z) Qx 0 [(0, .int x0), (1, .int x1)] [] (Z, I, L, O) := by
  unfold fJ9_floorMod_7cf53 at h
  refine ok_iload_n dJ9_floorMod_7cf53_0 0 rfl ?_
  refine ok_iload_n dJ9_floorMod_7cf53_1 1 rfl ?_
  obtain ⟨hg1, h⟩ := gd h
  refine ok_irem dJ9_floorMod_7cf53_2 hg1 ?_
  refine ok_istore_n (l' := [(2, .int (x0 - x0 / x1 * x1)), (0, .int x0), (1, .int x1)]) dJ9_floorMod_7cf53_3 rfl (Nat.le_of_ble_eq_true rfl) rfl ?_
  refine ok_iload_n dJ9_floorMod_7cf53_4 1 rfl ?_
  refine ok_iload_n dJ9_floorMod_7cf53_5 2 rfl ?_
  refine ok_ixor dJ9_floorMod_7cf53_6 ?_
  refine ok_if_ge (t := 18) dJ9_floorMod_7cf53_7 (by decide) (fun hc2 => ?_) (fun hc2 => ?_)
  · have h := (if_pos hc2).symm.trans h
    refine ok_iload_n dJ9_floorMod_7cf53_18 0 rfl ?_
    cases h
    exact ok_iret dJ9_floorMod_7cf53_19 hQ
  · have h := (if_neg hc2).symm.trans h
    refine ok_iload_n dJ9_floorMod_7cf53_10 0 rfl ?_
    refine ok_if_eq (t := 18) dJ9_floorMod_7cf53_11 (by decide) (fun hc3 => ?_) (fun hc3 => ?_)
    · have h := (if_pos hc3).symm.trans h
      refine ok_iload_n dJ9_floorMod_7cf53_18 0 rfl ?_
      cases h
      exact ok_iret dJ9_floorMod_7cf53_19 hQ
    · have h := (if_neg hc3).symm.trans h
      refine ok_iload_n dJ9_floorMod_7cf53_14 0 rfl ?_
      refine ok_iload_n dJ9_floorMod_7cf53_15 2 rfl ?_
      refine ok_iadd dJ9_floorMod_7cf53_16 ?_
      cases h
      exact ok_iret dJ9_floorMod_7cf53_17 hQ
theorem kJ9_floorMod_7cf53 {g : pG} {Q : Option Value → pW → Prop} {Z : pZ} {I : (Nat → Nat → Int32)} {L : (Nat → Nat → Int64)} {O : (Nat → Nat → Option Nat)} {x0 : Int32} {x1 : Int32} {res : Int32} (d : Nat) (hW : WT Z O) (h : fJ9_floorMod_7cf53 x0 x1 = some res) (hQ : Q (some (.int res)) (Z, I, L, O)) : CT g (d + 2) mJ9_floorMod_7cf53 0 0 [.int x0, .int x1] (Z, I, L, O) Q :=
  ct_of_ok (mt := mJ9_floorMod_7cf53) (ini := false) moJ9_floorMod_7cf53.2.2.2.2 (fun h => by cases h) (Nat.le_of_ble_eq_true rfl) (oJ9_floorMod_7cf53 d hW  h ⟨trivial, hQ, rfl, rfl⟩)
theorem dJ9_abs_0f7a4_0 : decode cJ9_abs_0f7a4 0 = .ok (.iload_n 0, 1) := by decide +kernel
theorem dJ9_abs_0f7a4_1 : decode cJ9_abs_0f7a4 1 = .ok (.ifCond .ge 8, 3) := by decide +kernel
theorem dJ9_abs_0f7a4_4 : decode cJ9_abs_0f7a4 4 = .ok (.iload_n 0, 1) := by decide +kernel
theorem dJ9_abs_0f7a4_5 : decode cJ9_abs_0f7a4 5 = .ok (.ineg, 1) := by decide +kernel
theorem dJ9_abs_0f7a4_6 : decode cJ9_abs_0f7a4 6 = .ok (.goto 4, 3) := by decide +kernel
theorem dJ9_abs_0f7a4_9 : decode cJ9_abs_0f7a4 9 = .ok (.iload_n 0, 1) := by decide +kernel
theorem dJ9_abs_0f7a4_10 : decode cJ9_abs_0f7a4 10 = .ok (.ireturn, 1) := by decide +kernel
def mJ9_abs_0f7a4 : pMT := (yJ9_abs_0f7a4, cJ9_abs_0f7a4, 1, some .int)
theorem moJ9_abs_0f7a4 : mOK mJ9_abs_0f7a4 1 := ⟨tb_i 774 (by decide +kernel), wi_RJ9, ⟨wn_RJ9.1, wn_RJ9.2, by decide +kernel⟩, by decide, by decide +kernel⟩
theorem mvJ9_abs_0f7a4 : mS mJ9_abs_0f7a4 := (tb_i 773 (by decide +kernel) : Cond.static yJ9_abs_0f7a4 ∈ lw_tbl)
def fJ9_abs_0f7a4 (x0 : Int32) : Option (Int32) := (if 0 ≤ x0 then some (x0) else some ((-x0)))
set_option maxHeartbeats 4000000 in
set_option maxRecDepth 20000 in
theorem oJ9_abs_0f7a4 {g : pG} {Qx : Option Value → pW → Prop} {Z : pZ} {I : (Nat → Nat → Int32)} {L : (Nat → Nat → Int64)} {O : (Nat → Nat → Option Nat)} {x0 : Int32} {res : Int32} (d : Nat) (hW : WT Z O) (h : fJ9_abs_0f7a4 x0 = some res) (hQ : Qx (some (.int res)) (Z, I, L, O)) : Ok g (d + 2, RJ9, cJ9_abs_0f7a4, 1, false, 0, 0, Z.length, pSl Z) Qx 0 [(0, .int x0)] [] (Z, I, L, O) := by
  unfold fJ9_abs_0f7a4 at h
  refine ok_iload_n dJ9_abs_0f7a4_0 0 rfl ?_
  refine ok_if_ge (t := 9) dJ9_abs_0f7a4_1 (by decide) (fun hc1 => ?_) (fun hc1 => ?_)
  · have h := (if_pos hc1).symm.trans h
    refine ok_iload_n dJ9_abs_0f7a4_9 0 rfl ?_
    cases h
    exact ok_iret dJ9_abs_0f7a4_10 hQ
  · have h := (if_neg hc1).symm.trans h
    refine ok_iload_n dJ9_abs_0f7a4_4 0 rfl ?_
    refine ok_ineg dJ9_abs_0f7a4_5 ?_
    refine ok_goto (t := 10) dJ9_abs_0f7a4_6 (by decide) ?_
    cases h
    exact ok_iret dJ9_abs_0f7a4_10 hQ
theorem kJ9_abs_0f7a4 {g : pG} {Q : Option Value → pW → Prop} {Z : pZ} {I : (Nat → Nat → Int32)} {L : (Nat → Nat → Int64)} {O : (Nat → Nat → Option Nat)} {x0 : Int32} {res : Int32} (d : Nat) (hW : WT Z O) (h : fJ9_abs_0f7a4 x0 = some res) (hQ : Q (some (.int res)) (Z, I, L, O)) : CT g (d + 2) mJ9_abs_0f7a4 0 0 [.int x0] (Z, I, L, O) Q :=
  ct_of_ok (mt := mJ9_abs_0f7a4) (ini := false) moJ9_abs_0f7a4.2.2.2.2 (fun h => by cases h) (Nat.le_of_ble_eq_true rfl) (oJ9_abs_0f7a4 d hW  h ⟨trivial, hQ, rfl, rfl⟩)
theorem dJ9_max_7cf53_0 : decode cJ9_max_7cf53 0 = .ok (.iload_n 0, 1) := by decide +kernel
theorem dJ9_max_7cf53_1 : decode cJ9_max_7cf53 1 = .ok (.iload_n 1, 1) := by decide +kernel
theorem dJ9_max_7cf53_2 : decode cJ9_max_7cf53 2 = .ok (.if_icmp .lt 7, 3) := by decide +kernel
theorem dJ9_max_7cf53_5 : decode cJ9_max_7cf53 5 = .ok (.iload_n 0, 1) := by decide +kernel
theorem dJ9_max_7cf53_6 : decode cJ9_max_7cf53 6 = .ok (.goto 4, 3) := by decide +kernel
theorem dJ9_max_7cf53_9 : decode cJ9_max_7cf53 9 = .ok (.iload_n 1, 1) := by decide +kernel
theorem dJ9_max_7cf53_10 : decode cJ9_max_7cf53 10 = .ok (.ireturn, 1) := by decide +kernel
def mJ9_max_7cf53 : pMT := (yJ9_max_7cf53, cJ9_max_7cf53, 2, some .int)
theorem moJ9_max_7cf53 : mOK mJ9_max_7cf53 2 := ⟨tb_i 529 (by decide +kernel), wi_RJ9, ⟨wn_RJ9.1, wn_RJ9.2, by decide +kernel⟩, by decide, by decide +kernel⟩
theorem mvJ9_max_7cf53 : mS mJ9_max_7cf53 := (tb_i 528 (by decide +kernel) : Cond.static yJ9_max_7cf53 ∈ lw_tbl)
def fJ9_max_7cf53 (x0 : Int32) (x1 : Int32) : Option (Int32) := (if x0 < x1 then some (x1) else some (x0))
set_option maxHeartbeats 4000000 in
set_option maxRecDepth 20000 in
theorem oJ9_max_7cf53 {g : pG} {Qx : Option Value → pW → Prop} {Z : pZ} {I : (Nat → Nat → Int32)} {L : (Nat → Nat → Int64)} {O : (Nat → Nat → Option Nat)} {x0 : Int32} {x1 : Int32} {res : Int32} (d : Nat) (hW : WT Z O) (h : fJ9_max_7cf53 x0 x1 = some res) (hQ : Qx (some (.int res)) (Z, I, L, O)) : Ok g (d + 2, RJ9, cJ9_max_7cf53, 2, false, 0, 0, Z.length, pSl Z) Qx 0 [(0, .int x0), (1, .int x1)] [] (Z, I, L, O) := by
  unfold fJ9_max_7cf53 at h
  refine ok_iload_n dJ9_max_7cf53_0 0 rfl ?_
  refine ok_iload_n dJ9_max_7cf53_1 1 rfl ?_
  refine ok_icmp_lt (t := 9) dJ9_max_7cf53_2 (by decide) (fun hc1 => ?_) (fun hc1 => ?_)
  · have h := (if_pos hc1).symm.trans h
    refine ok_iload_n dJ9_max_7cf53_9 1 rfl ?_
    cases h
    exact ok_iret dJ9_max_7cf53_10 hQ
  · have h := (if_neg hc1).symm.trans h
    refine ok_iload_n dJ9_max_7cf53_5 0 rfl ?_
    refine ok_goto (t := 10) dJ9_max_7cf53_6 (by decide) ?_
    cases h
    exact ok_iret dJ9_max_7cf53_10 hQ
theorem kJ9_max_7cf53 {g : pG} {Q : Option Value → pW → Prop} {Z : pZ} {I : (Nat → Nat → Int32)} {L : (Nat → Nat → Int64)} {O : (Nat → Nat → Option Nat)} {x0 : Int32} {x1 : Int32} {res : Int32} (d : Nat) (hW : WT Z O) (h : fJ9_max_7cf53 x0 x1 = some res) (hQ : Q (some (.int res)) (Z, I, L, O)) : CT g (d + 2) mJ9_max_7cf53 0 0 [.int x0, .int x1] (Z, I, L, O) Q :=
  ct_of_ok (mt := mJ9_max_7cf53) (ini := false) moJ9_max_7cf53.2.2.2.2 (fun h => by cases h) (Nat.le_of_ble_eq_true rfl) (oJ9_max_7cf53 d hW  h ⟨trivial, hQ, rfl, rfl⟩)
theorem dJ9_max_f86c9_0 : decode cJ9_max_f86c9 0 = .ok (.lload_n 0, 1) := by decide +kernel
theorem dJ9_max_f86c9_1 : decode cJ9_max_f86c9 1 = .ok (.lload_n 2, 1) := by decide +kernel
theorem dJ9_max_f86c9_2 : decode cJ9_max_f86c9 2 = .ok (.lcmp, 1) := by decide +kernel
theorem dJ9_max_f86c9_3 : decode cJ9_max_f86c9 3 = .ok (.ifCond .lt 7, 3) := by decide +kernel
theorem dJ9_max_f86c9_6 : decode cJ9_max_f86c9 6 = .ok (.lload_n 0, 1) := by decide +kernel
theorem dJ9_max_f86c9_7 : decode cJ9_max_f86c9 7 = .ok (.goto 4, 3) := by decide +kernel
theorem dJ9_max_f86c9_10 : decode cJ9_max_f86c9 10 = .ok (.lload_n 2, 1) := by decide +kernel
theorem dJ9_max_f86c9_11 : decode cJ9_max_f86c9 11 = .ok (.lreturn, 1) := by decide +kernel
def mJ9_max_f86c9 : pMT := (yJ9_max_f86c9, cJ9_max_f86c9, 4, some .long)
theorem moJ9_max_f86c9 : mOK mJ9_max_f86c9 2 := ⟨tb_i 785 (by decide +kernel), wi_RJ9, ⟨wn_RJ9.1, wn_RJ9.2, by decide +kernel⟩, by decide, by decide +kernel⟩
theorem mvJ9_max_f86c9 : mS mJ9_max_f86c9 := (tb_i 784 (by decide +kernel) : Cond.static yJ9_max_f86c9 ∈ lw_tbl)
def fJ9_max_f86c9 (x0 : Int64) (x2 : Int64) : Option (Int64) := (if (lg_cmp x0 x2) < 0 then some (x2) else some (x0))
set_option maxHeartbeats 4000000 in
set_option maxRecDepth 20000 in
theorem oJ9_max_f86c9 {g : pG} {Qx : Option Value → pW → Prop} {Z : pZ} {I : (Nat → Nat → Int32)} {L : (Nat → Nat → Int64)} {O : (Nat → Nat → Option Nat)} {x0 : Int64} {x2 : Int64} {res : Int64} (d : Nat) (hW : WT Z O) (h : fJ9_max_f86c9 x0 x2 = some res) (hQ : Qx (some (.long res)) (Z, I, L, O)) : Ok g (d + 2, RJ9, cJ9_max_f86c9, 4, false, 0, 0, Z.length, pSl Z) Qx 0 [(0, .long x0), (2, .long x2)] [] (Z, I, L, O) := by
  unfold fJ9_max_f86c9 at h
  refine ok_lload_n dJ9_max_f86c9_0 0 rfl ?_
  refine ok_lload_n dJ9_max_f86c9_1 1 rfl ?_
  refine ok_lcmp dJ9_max_f86c9_2 ?_
  refine ok_if_lt (t := 10) dJ9_max_f86c9_3 (by decide) (fun hc1 => ?_) (fun hc1 => ?_)
  · have h := (if_pos hc1).symm.trans h
    refine ok_lload_n dJ9_max_f86c9_10 1 rfl ?_
    cases h
    exact ok_lret dJ9_max_f86c9_11 hQ
  · have h := (if_neg hc1).symm.trans h
    refine ok_lload_n dJ9_max_f86c9_6 0 rfl ?_
    refine ok_goto (t := 11) dJ9_max_f86c9_7 (by decide) ?_
    cases h
    exact ok_lret dJ9_max_f86c9_11 hQ
theorem kJ9_max_f86c9 {g : pG} {Q : Option Value → pW → Prop} {Z : pZ} {I : (Nat → Nat → Int32)} {L : (Nat → Nat → Int64)} {O : (Nat → Nat → Option Nat)} {x0 : Int64} {x2 : Int64} {res : Int64} (d : Nat) (hW : WT Z O) (h : fJ9_max_f86c9 x0 x2 = some res) (hQ : Q (some (.long res)) (Z, I, L, O)) : CT g (d + 2) mJ9_max_f86c9 0 0 [.long x0, .long x2] (Z, I, L, O) Q :=
  ct_of_ok (mt := mJ9_max_f86c9) (ini := false) moJ9_max_f86c9.2.2.2.2 (fun h => by cases h) (Nat.le_of_ble_eq_true rfl) (oJ9_max_f86c9 d hW  h ⟨trivial, hQ, rfl, rfl⟩)
theorem dJ9_min_7cf53_0 : decode cJ9_min_7cf53 0 = .ok (.iload_n 0, 1) := by decide +kernel
theorem dJ9_min_7cf53_1 : decode cJ9_min_7cf53 1 = .ok (.iload_n 1, 1) := by decide +kernel
theorem dJ9_min_7cf53_2 : decode cJ9_min_7cf53 2 = .ok (.if_icmp .gt 7, 3) := by decide +kernel
theorem dJ9_min_7cf53_5 : decode cJ9_min_7cf53 5 = .ok (.iload_n 0, 1) := by decide +kernel
theorem dJ9_min_7cf53_6 : decode cJ9_min_7cf53 6 = .ok (.goto 4, 3) := by decide +kernel
theorem dJ9_min_7cf53_9 : decode cJ9_min_7cf53 9 = .ok (.iload_n 1, 1) := by decide +kernel
theorem dJ9_min_7cf53_10 : decode cJ9_min_7cf53 10 = .ok (.ireturn, 1) := by decide +kernel
def mJ9_min_7cf53 : pMT := (yJ9_min_7cf53, cJ9_min_7cf53, 2, some .int)
theorem moJ9_min_7cf53 : mOK mJ9_min_7cf53 2 := ⟨tb_i 523 (by decide +kernel), wi_RJ9, ⟨wn_RJ9.1, wn_RJ9.2, by decide +kernel⟩, by decide, by decide +kernel⟩
theorem mvJ9_min_7cf53 : mS mJ9_min_7cf53 := (tb_i 522 (by decide +kernel) : Cond.static yJ9_min_7cf53 ∈ lw_tbl)
def fJ9_min_7cf53 (x0 : Int32) (x1 : Int32) : Option (Int32) := (if x1 < x0 then some (x1) else some (x0))
set_option maxHeartbeats 4000000 in
set_option maxRecDepth 20000 in
theorem oJ9_min_7cf53 {g : pG} {Qx : Option Value → pW → Prop} {Z : pZ} {I : (Nat → Nat → Int32)} {L : (Nat → Nat → Int64)} {O : (Nat → Nat → Option Nat)} {x0 : Int32} {x1 : Int32} {res : Int32} (d : Nat) (hW : WT Z O) (h : fJ9_min_7cf53 x0 x1 = some res) (hQ : Qx (some (.int res)) (Z, I, L, O)) : Ok g (d + 2, RJ9, cJ9_min_7cf53, 2, false, 0, 0, Z.length, pSl Z) Qx 0 [(0, .int x0), (1, .int x1)] [] (Z, I, L, O) := by
  unfold fJ9_min_7cf53 at h
  refine ok_iload_n dJ9_min_7cf53_0 0 rfl ?_
  refine ok_iload_n dJ9_min_7cf53_1 1 rfl ?_
  refine ok_icmp_gt (t := 9) dJ9_min_7cf53_2 (by decide) (fun hc1 => ?_) (fun hc1 => ?_)
  · have h := (if_pos hc1).symm.trans h
    refine ok_iload_n dJ9_min_7cf53_9 1 rfl ?_
    cases h
    exact ok_iret dJ9_min_7cf53_10 hQ
  · have h := (if_neg hc1).symm.trans h
    refine ok_iload_n dJ9_min_7cf53_5 0 rfl ?_
    refine ok_goto (t := 10) dJ9_min_7cf53_6 (by decide) ?_
    cases h
    exact ok_iret dJ9_min_7cf53_10 hQ
theorem kJ9_min_7cf53 {g : pG} {Q : Option Value → pW → Prop} {Z : pZ} {I : (Nat → Nat → Int32)} {L : (Nat → Nat → Int64)} {O : (Nat → Nat → Option Nat)} {x0 : Int32} {x1 : Int32} {res : Int32} (d : Nat) (hW : WT Z O) (h : fJ9_min_7cf53 x0 x1 = some res) (hQ : Q (some (.int res)) (Z, I, L, O)) : CT g (d + 2) mJ9_min_7cf53 0 0 [.int x0, .int x1] (Z, I, L, O) Q :=
  ct_of_ok (mt := mJ9_min_7cf53) (ini := false) moJ9_min_7cf53.2.2.2.2 (fun h => by cases h) (Nat.le_of_ble_eq_true rfl) (oJ9_min_7cf53 d hW  h ⟨trivial, hQ, rfl, rfl⟩)
theorem dJ9_min_f86c9_0 : decode cJ9_min_f86c9 0 = .ok (.lload_n 0, 1) := by decide +kernel
theorem dJ9_min_f86c9_1 : decode cJ9_min_f86c9 1 = .ok (.lload_n 2, 1) := by decide +kernel
theorem dJ9_min_f86c9_2 : decode cJ9_min_f86c9 2 = .ok (.lcmp, 1) := by decide +kernel
theorem dJ9_min_f86c9_3 : decode cJ9_min_f86c9 3 = .ok (.ifCond .gt 7, 3) := by decide +kernel
theorem dJ9_min_f86c9_6 : decode cJ9_min_f86c9 6 = .ok (.lload_n 0, 1) := by decide +kernel
theorem dJ9_min_f86c9_7 : decode cJ9_min_f86c9 7 = .ok (.goto 4, 3) := by decide +kernel
theorem dJ9_min_f86c9_10 : decode cJ9_min_f86c9 10 = .ok (.lload_n 2, 1) := by decide +kernel
theorem dJ9_min_f86c9_11 : decode cJ9_min_f86c9 11 = .ok (.lreturn, 1) := by decide +kernel
def mJ9_min_f86c9 : pMT := (yJ9_min_f86c9, cJ9_min_f86c9, 4, some .long)
theorem moJ9_min_f86c9 : mOK mJ9_min_f86c9 2 := ⟨tb_i 782 (by decide +kernel), wi_RJ9, ⟨wn_RJ9.1, wn_RJ9.2, by decide +kernel⟩, by decide, by decide +kernel⟩
theorem mvJ9_min_f86c9 : mS mJ9_min_f86c9 := (tb_i 781 (by decide +kernel) : Cond.static yJ9_min_f86c9 ∈ lw_tbl)
def fJ9_min_f86c9 (x0 : Int64) (x2 : Int64) : Option (Int64) := (if 0 < (lg_cmp x0 x2) then some (x2) else some (x0))
set_option maxHeartbeats 4000000 in
set_option maxRecDepth 20000 in
theorem oJ9_min_f86c9 {g : pG} {Qx : Option Value → pW → Prop} {Z : pZ} {I : (Nat → Nat → Int32)} {L : (Nat → Nat → Int64)} {O : (Nat → Nat → Option Nat)} {x0 : Int64} {x2 : Int64} {res : Int64} (d : Nat) (hW : WT Z O) (h : fJ9_min_f86c9 x0 x2 = some res) (hQ : Qx (some (.long res)) (Z, I, L, O)) : Ok g (d + 2, RJ9, cJ9_min_f86c9, 4, false, 0, 0, Z.length, pSl Z) Qx 0 [(0, .long x0), (2, .long x2)] [] (Z, I, L, O) := by
  unfold fJ9_min_f86c9 at h
  refine ok_lload_n dJ9_min_f86c9_0 0 rfl ?_
  refine ok_lload_n dJ9_min_f86c9_1 1 rfl ?_
  refine ok_lcmp dJ9_min_f86c9_2 ?_
  refine ok_if_gt (t := 10) dJ9_min_f86c9_3 (by decide) (fun hc1 => ?_) (fun hc1 => ?_)
  · have h := (if_pos hc1).symm.trans h
    refine ok_lload_n dJ9_min_f86c9_10 1 rfl ?_
    cases h
    exact ok_lret dJ9_min_f86c9_11 hQ
  · have h := (if_neg hc1).symm.trans h
    refine ok_lload_n dJ9_min_f86c9_6 0 rfl ?_
    refine ok_goto (t := 11) dJ9_min_f86c9_7 (by decide) ?_
    cases h
    exact ok_lret dJ9_min_f86c9_11 hQ
theorem kJ9_min_f86c9 {g : pG} {Q : Option Value → pW → Prop} {Z : pZ} {I : (Nat → Nat → Int32)} {L : (Nat → Nat → Int64)} {O : (Nat → Nat → Option Nat)} {x0 : Int64} {x2 : Int64} {res : Int64} (d : Nat) (hW : WT Z O) (h : fJ9_min_f86c9 x0 x2 = some res) (hQ : Q (some (.long res)) (Z, I, L, O)) : CT g (d + 2) mJ9_min_f86c9 0 0 [.long x0, .long x2] (Z, I, L, O) Q :=
  ct_of_ok (mt := mJ9_min_f86c9) (ini := false) moJ9_min_f86c9.2.2.2.2 (fun h => by cases h) (Nat.le_of_ble_eq_true rfl) (oJ9_min_f86c9 d hW  h ⟨trivial, hQ, rfl, rfl⟩)
