theorem flRX0_11 : FL RX0 11 0 0 := ⟨(RX0, TX0, 3), rfl, by decide, tb_i 113 (by decide +kernel)⟩
theorem flRX0_18 : FL RX0 18 0 1 := ⟨(RX0, TX0, 3), rfl, by decide, tb_i 114 (by decide +kernel)⟩
theorem flRX0_22 : FL RX0 22 0 2 := ⟨(RX0, TX0, 3), rfl, by decide, tb_i 115 (by decide +kernel)⟩
theorem flRX0_33 : FL RX0 33 3 0 := ⟨(RX3, TX3, 6), rfl, by decide, tb_i 50 (by decide +kernel)⟩
theorem lkRX0_25 : Cond.methodLink RX0 25 yX0_slot ∈ lw_tbl := tb_i 677 (by decide +kernel)
theorem lkRX0_29 : Cond.methodLink RX0 29 yX3_take ∈ lw_tbl := tb_i 684 (by decide +kernel)
theorem lkRX0_37 : Cond.methodLink RX0 37 yJ9_floorMod_7cf53 ∈ lw_tbl := tb_i 681 (by decide +kernel)
theorem dX0_slot_0 : decode cX0_slot 0 = .ok (.aload_n 0, 1) := by decide +kernel
theorem dX0_slot_1 : decode cX0_slot 1 = .ok (.getfield 18, 3) := by decide +kernel
theorem dX0_slot_4 : decode cX0_slot 4 = .ok (.iload_n 1, 1) := by decide +kernel
theorem dX0_slot_5 : decode cX0_slot 5 = .ok (.iadd, 1) := by decide +kernel
theorem dX0_slot_6 : decode cX0_slot 6 = .ok (.bipush 30, 2) := by decide +kernel
theorem dX0_slot_8 : decode cX0_slot 8 = .ok (.invokestatic 37, 3) := by decide +kernel
theorem dX0_slot_11 : decode cX0_slot 11 = .ok (.ireturn, 1) := by decide +kernel
theorem wi_RX0 : Cond.initialized RX0 ∈ lw_tbl := tb_i 5 (by decide +kernel)
theorem wn_RX0 : RX0 ≠ "java/lang/invoke/MethodHandle" ∧ RX0 ≠ "java/lang/invoke/VarHandle" := ⟨by decide +kernel, by decide +kernel⟩
theorem wp_RX0 : plainName RX0 = true := by decide +kernel
def m0_slot : pMT := (yX0_slot, cX0_slot, 2, some .int)
theorem mo0_slot : mOK m0_slot 1 := ⟨tb_i 680 (by decide +kernel), wi_RX0, ⟨wn_RX0.1, wn_RX0.2, by decide +kernel⟩, by decide, plainFor_of_name wp_RX0⟩
theorem mv0_slot : mV m0_slot := ⟨tb_i 679 (by decide +kernel), tb_p 27 (by decide +kernel)⟩
def f0_slot (I : (Nat → Nat → Int32)) (a0 : Nat) (x1 : Int32) : Option (Int32) := (fJ9_floorMod_7cf53 ((I a0 1) + x1) (30 : Int32)).bind fun r1 => some (r1)
set_option maxHeartbeats 4000000 in
set_option maxRecDepth 20000 in
theorem o0_slot {g : pG} {Qx : Option Value → pW → Prop} {Z : pZ} {I : (Nat → Nat → Int32)} {L : (Nat → Nat → Int64)} {O : (Nat → Nat → Option Nat)} {a0 : Nat} {x1 : Int32} {res : Int32} (d : Nat) (hW : WT Z O) (hZ0 : Z[a0]? = some (0, 3)) (h : f0_slot I a0 x1 = some res) (hQ : Qx (some (.int res)) (Z, I, L, O)) : Ok g (d + 3, RX0, cX0_slot, 2, false, 0, 0, Z.length, pSl Z) Qx 0 [(0, .ref a0), (1, .int x1)] [] (Z, I, L, O) := by
  unfold f0_slot at h
  refine ok_aload_n dX0_slot_0 0 rfl ?_
  refine ok_getI (ci := 0) (k := 1) dX0_slot_1 flRX0_18 rfl hZ0 (by decide) ?_
  refine ok_iload_n dX0_slot_4 1 rfl ?_
  refine ok_iadd dX0_slot_5 ?_
  refine ok_bipush (v := 30) dX0_slot_6 (by decide) ?_
  obtain ⟨r1, hr2, h⟩ := bd h
  refine ok_callS (d := ((d + 0) + 2)) (mt := mJ9_floorMod_7cf53) (mc := 0) (ms := 0) (As := [.int ((I a0 1) + x1), .int 30]) (r := []) dX0_slot_8 moJ9_floorMod_7cf53 mvJ9_floorMod_7cf53 lkRX0_37 rfl rfl (Nat.le_of_ble_eq_true rfl) (by show _ + 1 ≤ d + _; omega) (Nat.le_refl _) (Nat.le_refl _) (pRt_mono ?_)
  refine kJ9_floorMod_7cf53 (d + 0) hW  hr2 ?_
  intro _
  show Ok g _ Qx 11 [(0, .ref a0), (1, .int x1)] [.int r1] (Z, I, L, O)
  cases h
  exact ok_iret dX0_slot_11 hQ
theorem k0_slot {g : pG} {Q : Option Value → pW → Prop} {Z : pZ} {I : (Nat → Nat → Int32)} {L : (Nat → Nat → Int64)} {O : (Nat → Nat → Option Nat)} {a0 : Nat} {x1 : Int32} {res : Int32} (d : Nat) (hW : WT Z O) (hZ0 : Z[a0]? = some (0, 3)) (h : f0_slot I a0 x1 = some res) (hQ : Q (some (.int res)) (Z, I, L, O)) : CT g (d + 3) m0_slot 0 0 [.ref a0, .int x1] (Z, I, L, O) Q :=
  ct_of_ok (mt := m0_slot) (ini := false) mo0_slot.2.2.2.2 (fun h => by cases h) (Nat.le_of_ble_eq_true rfl) (o0_slot d hW hZ0 h ⟨trivial, hQ, rfl, rfl⟩)
theorem dX0_take_0 : decode cX0_take 0 = .ok (.aload_n 0, 1) := by decide +kernel
theorem dX0_take_1 : decode cX0_take 1 = .ok (.aload_n 1, 1) := by decide +kernel
theorem dX0_take_2 : decode cX0_take 2 = .ok (.getfield 18, 3) := by decide +kernel
theorem dX0_take_5 : decode cX0_take 5 = .ok (.putfield 18, 3) := by decide +kernel
theorem dX0_take_8 : decode cX0_take 8 = .ok (.aload_n 0, 1) := by decide +kernel
theorem dX0_take_9 : decode cX0_take 9 = .ok (.aload_n 1, 1) := by decide +kernel
theorem dX0_take_10 : decode cX0_take 10 = .ok (.getfield 22, 3) := by decide +kernel
theorem dX0_take_13 : decode cX0_take 13 = .ok (.putfield 22, 3) := by decide +kernel
theorem dX0_take_16 : decode cX0_take 16 = .ok (.iconst 0, 1) := by decide +kernel
theorem dX0_take_17 : decode cX0_take 17 = .ok (.istore_n 2, 1) := by decide +kernel
theorem dX0_take_18 : decode cX0_take 18 = .ok (.iload_n 2, 1) := by decide +kernel
theorem dX0_take_19 : decode cX0_take 19 = .ok (.aload_n 0, 1) := by decide +kernel
theorem dX0_take_20 : decode cX0_take 20 = .ok (.getfield 22, 3) := by decide +kernel
theorem dX0_take_23 : decode cX0_take 23 = .ok (.if_icmp .ge 32, 3) := by decide +kernel
theorem dX0_take_26 : decode cX0_take 26 = .ok (.aload_n 0, 1) := by decide +kernel
theorem dX0_take_27 : decode cX0_take 27 = .ok (.getfield 11, 3) := by decide +kernel
theorem dX0_take_30 : decode cX0_take 30 = .ok (.aload_n 0, 1) := by decide +kernel
theorem dX0_take_31 : decode cX0_take 31 = .ok (.iload_n 2, 1) := by decide +kernel
theorem dX0_take_32 : decode cX0_take 32 = .ok (.invokevirtual 25, 3) := by decide +kernel
theorem dX0_take_35 : decode cX0_take 35 = .ok (.aaload, 1) := by decide +kernel
theorem dX0_take_36 : decode cX0_take 36 = .ok (.aload_n 1, 1) := by decide +kernel
theorem dX0_take_37 : decode cX0_take 37 = .ok (.getfield 11, 3) := by decide +kernel
theorem dX0_take_40 : decode cX0_take 40 = .ok (.aload_n 0, 1) := by decide +kernel
theorem dX0_take_41 : decode cX0_take 41 = .ok (.iload_n 2, 1) := by decide +kernel
theorem dX0_take_42 : decode cX0_take 42 = .ok (.invokevirtual 25, 3) := by decide +kernel
theorem dX0_take_45 : decode cX0_take 45 = .ok (.aaload, 1) := by decide +kernel
theorem dX0_take_46 : decode cX0_take 46 = .ok (.invokevirtual 29, 3) := by decide +kernel
theorem dX0_take_49 : decode cX0_take 49 = .ok (.iinc 2 1, 3) := by decide +kernel
theorem dX0_take_52 : decode cX0_take 52 = .ok (.goto (-34), 3) := by decide +kernel
theorem dX0_take_55 : decode cX0_take 55 = .ok (.return_, 1) := by decide +kernel
def m0_take : pMT := (yX0_take, cX0_take, 3, none)
theorem mo0_take : mOK m0_take 1 := ⟨tb_i 1286 (by decide +kernel), wi_RX0, ⟨wn_RX0.1, wn_RX0.2, by decide +kernel⟩, by decide, plainFor_of_name wp_RX0⟩
theorem mv0_take : mV m0_take := ⟨tb_i 1284 (by decide +kernel), tb_i 1285 (by decide +kernel)⟩
def f0_take_c18 (n : Nat) (O : (Nat → Nat → Option Nat)) : Nat → (Nat → Nat → Int32) → Nat → Nat → Int32 → Option ((Nat → Nat → Int32))
  | 0, _, _, _, _ => none
  | m + 1, I, b0, b1, y2 => (if (I b0 2) ≤ y2 then some (I) else (f0_slot I b0 y2).bind fun r3 => (if r3 < 0 ∨ 30 ≤ r3.toNatClampNeg then none else (f0_slot I b0 y2).bind fun r8 => (if r8 < 0 ∨ 30 ≤ r8.toNatClampNeg then none else (f3_take I O (rO O (rO O b0 0) r3.toNatClampNeg) (rO O (rO O b1 0) r8.toNatClampNeg)).bind fun r12 => f0_take_c18 n O m r12 b0 b1 (y2 + 1))))
set_option maxHeartbeats 4000000 in
set_option maxRecDepth 20000 in
theorem o0_take_c18 {g : pG} {Qx : Option Value → pW → Prop} {Z : pZ} {L : (Nat → Nat → Int64)} {O : (Nat → Nat → Option Nat)} {n : Nat} {res : (Nat → Nat → Int32)} (d : Nat) (hW : WT Z O) (hQ : Qx none (Z, res, L, O)) : ∀ (m : Nat) (I : (Nat → Nat → Int32)) (b0 : Nat) (b1 : Nat) (y2 : Int32), (Z[b0]? = some (0, 3)) → (Z[b1]? = some (0, 3)) → f0_take_c18 n O m I b0 b1 y2 = some res → Ok g (d + 4, RX0, cX0_take, 3, false, 0, 0, Z.length, pSl Z) Qx 18 [(0, .ref b0), (1, .ref b1), (2, .int y2)] [] (Z, I, L, O) := by
  intro m
  induction m with
  | zero => intro I b0 b1 y2 hZ_b0 hZ_b1 h; rw [f0_take_c18] at h; cases h
  | succ m ih =>
    intro I b0 b1 y2 hZ_b0 hZ_b1 h
    rw [f0_take_c18] at h
    refine ok_iload_n dX0_take_18 2 rfl ?_
    refine ok_aload_n dX0_take_19 0 rfl ?_
    refine ok_getI (ci := 0) (k := 2) dX0_take_20 flRX0_22 rfl hZ_b0 (by decide) ?_
    refine ok_icmp_ge (t := 55) dX0_take_23 (by decide) (fun hc1 => ?_) (fun hc1 => ?_)
    · have h := (if_pos hc1).symm.trans h
      cases h
      exact ok_vret dX0_take_55 hQ
    · have h := (if_neg hc1).symm.trans h
      refine ok_aload_n dX0_take_26 0 rfl ?_
      have hT2 : Z[(rO O b0 0)]? = some (16, 30) := (wt_f (ci := 0) (k := 0) hW hZ_b0 rfl).2
      refine ok_getR (ci := 0) (k := 0) dX0_take_27 flRX0_11 rfl hW hZ_b0 (by decide) ?_
      refine ok_aload_n dX0_take_30 0 rfl ?_
      refine ok_iload_n dX0_take_31 2 rfl ?_
      obtain ⟨r3, hr4, h⟩ := bd h
      refine ok_callV (d := ((d + 0) + 3)) (mt := m0_slot) (mc := 0) (ms := 0) (As := [.int y2]) (r := [.ref (rO O b0 0)]) dX0_take_32 mo0_slot mv0_slot lkRX0_25 rfl hZ_b0 (q := (RX0, TX0, 3)) rfl rfl rfl (Nat.le_of_ble_eq_true rfl) (by show _ + 1 ≤ d + _; omega) (Nat.le_refl _) (Nat.le_refl _) (pRt_mono ?_)
      refine k0_slot (d + 0) hW hZ_b0 hr4 ?_
      intro _
      show Ok g _ Qx 35 [(0, .ref b0), (1, .ref b1), (2, .int y2)] [.int r3, .ref (rO O b0 0)] (Z, I, L, O)
      obtain ⟨hg5, h⟩ := gd h
      have hT6 : Z[(rO O (rO O b0 0) r3.toNatClampNeg)]? = some (3, 6) := (wt_m hW hT2 (clamp_lt hg5)).2
      refine ok_aald2 (N := r3.toNatClampNeg) dX0_take_35 hT2 (Or.inl rfl) hW hg5 rfl ?_
      refine ok_aload_n dX0_take_36 1 rfl ?_
      have hT7 : Z[(rO O b1 0)]? = some (16, 30) := (wt_f (ci := 0) (k := 0) hW hZ_b1 rfl).2
      refine ok_getR (ci := 0) (k := 0) dX0_take_37 flRX0_11 rfl hW hZ_b1 (by decide) ?_
      refine ok_aload_n dX0_take_40 0 rfl ?_
      refine ok_iload_n dX0_take_41 2 rfl ?_
      obtain ⟨r8, hr9, h⟩ := bd h
      refine ok_callV (d := ((d + 0) + 3)) (mt := m0_slot) (mc := 0) (ms := 0) (As := [.int y2]) (r := [.ref (rO O b1 0), .ref (rO O (rO O b0 0) r3.toNatClampNeg)]) dX0_take_42 mo0_slot mv0_slot lkRX0_25 rfl hZ_b0 (q := (RX0, TX0, 3)) rfl rfl rfl (Nat.le_of_ble_eq_true rfl) (by show _ + 1 ≤ d + _; omega) (Nat.le_refl _) (Nat.le_refl _) (pRt_mono ?_)
      refine k0_slot (d + 0) hW hZ_b0 hr9 ?_
      intro _
      show Ok g _ Qx 45 [(0, .ref b0), (1, .ref b1), (2, .int y2)] [.int r8, .ref (rO O b1 0), .ref (rO O (rO O b0 0) r3.toNatClampNeg)] (Z, I, L, O)
      obtain ⟨hg10, h⟩ := gd h
      have hT11 : Z[(rO O (rO O b1 0) r8.toNatClampNeg)]? = some (3, 6) := (wt_m hW hT7 (clamp_lt hg10)).2
      refine ok_aald2 (N := r8.toNatClampNeg) dX0_take_45 hT7 (Or.inl rfl) hW hg10 rfl ?_
      obtain ⟨r12, hr13, h⟩ := bd h
      refine ok_callV (d := ((d + 1) + 2)) (mt := m3_take) (mc := 0) (ms := 0) (As := [.ref (rO O (rO O b1 0) r8.toNatClampNeg)]) (r := []) dX0_take_46 mo3_take mv3_take lkRX0_29 rfl hT6 (q := (RX3, TX3, 6)) rfl rfl rfl (Nat.le_of_ble_eq_true rfl) (by show _ + 1 ≤ d + _; omega) (Nat.le_refl _) (Nat.le_refl _) (pRt_mono ?_)
      refine k3_take (d + 1) hW hT6 hT11 hr13 ?_
      intro _
      show Ok g _ Qx 49 [(0, .ref b0), (1, .ref b1), (2, .int y2)] [] (Z, r12, L, O)
      refine ok_iinc (u := (y2 + 1)) (l' := [(2, .int (y2 + 1)), (0, .ref b0), (1, .ref b1)]) dX0_take_49 2 rfl rfl (Nat.le_of_ble_eq_true rfl) rfl ?_
      refine ok_goto (t := 18) dX0_take_52 (by decide) ?_
      refine ok_sub [1, 2, 0] rfl ?_
      exact ih r12 b0 b1 (y2 + 1) hZ_b0 hZ_b1 h
def f0_take (n : Nat) (I : (Nat → Nat → Int32)) (O : (Nat → Nat → Option Nat)) (a0 : Nat) (a1 : Nat) : Option ((Nat → Nat → Int32)) := bl (sI I a0 1 (I a1 1)) fun I1 => bl (sI I1 a0 2 (I1 a1 2)) fun I2 => f0_take_c18 n O n I2 a0 a1 (0 : Int32)
set_option maxHeartbeats 4000000 in
set_option maxRecDepth 20000 in
theorem o0_take {g : pG} {Qx : Option Value → pW → Prop} {Z : pZ} {I : (Nat → Nat → Int32)} {L : (Nat → Nat → Int64)} {O : (Nat → Nat → Option Nat)} {n : Nat} {a0 : Nat} {a1 : Nat} {res : (Nat → Nat → Int32)} (d : Nat) (hW : WT Z O) (hZ0 : Z[a0]? = some (0, 3)) (hZ1 : Z[a1]? = some (0, 3)) (h : f0_take n I O a0 a1 = some res) (hQ : Qx none (Z, res, L, O)) : Ok g (d + 4, RX0, cX0_take, 3, false, 0, 0, Z.length, pSl Z) Qx 0 [(0, .ref a0), (1, .ref a1)] [] (Z, I, L, O) := by
  unfold f0_take at h
  refine ok_aload_n dX0_take_0 0 rfl ?_
  refine ok_aload_n dX0_take_1 1 rfl ?_
  refine ok_getI (ci := 0) (k := 1) dX0_take_2 flRX0_18 rfl hZ1 (by decide) ?_
  obtain ⟨I1, eI1, h⟩ := blE h
  refine ok_putI2 (ci := 0) (k := 1) dX0_take_5 flRX0_18 rfl (Or.inl rfl) hZ0 (by decide) eI1 ?_
  refine ok_aload_n dX0_take_8 0 rfl ?_
  refine ok_aload_n dX0_take_9 1 rfl ?_
  refine ok_getI (ci := 0) (k := 2) dX0_take_10 flRX0_22 rfl hZ1 (by decide) ?_
  obtain ⟨I2, eI2, h⟩ := blE h
  refine ok_putI2 (ci := 0) (k := 2) dX0_take_13 flRX0_22 rfl (Or.inl rfl) hZ0 (by decide) eI2 ?_
  refine ok_iconst (v := 0) dX0_take_16 (by decide) ?_
  refine ok_istore_n (l' := [(2, .int 0), (0, .ref a0), (1, .ref a1)]) dX0_take_17 rfl (Nat.le_of_ble_eq_true rfl) rfl ?_
  refine ok_sub [1, 2, 0] rfl ?_
  exact o0_take_c18 d hW hQ  n I2 a0 a1 (0 : Int32) hZ0 hZ1 h
theorem k0_take {g : pG} {Q : Option Value → pW → Prop} {Z : pZ} {I : (Nat → Nat → Int32)} {L : (Nat → Nat → Int64)} {O : (Nat → Nat → Option Nat)} {n : Nat} {a0 : Nat} {a1 : Nat} {res : (Nat → Nat → Int32)} (d : Nat) (hW : WT Z O) (hZ0 : Z[a0]? = some (0, 3)) (hZ1 : Z[a1]? = some (0, 3)) (h : f0_take n I O a0 a1 = some res) (hQ : Q none (Z, res, L, O)) : CT g (d + 4) m0_take 0 0 [.ref a0, .ref a1] (Z, I, L, O) Q :=
  ct_of_ok (mt := m0_take) (ini := false) mo0_take.2.2.2.2 (fun h => by cases h) (Nat.le_of_ble_eq_true rfl) (o0_take d hW hZ0 hZ1 h ⟨trivial, hQ, rfl, rfl⟩)
theorem dX0_keep_0 : decode cX0_keep 0 = .ok (.aload_n 0, 1) := by decide +kernel
theorem dX0_keep_1 : decode cX0_keep 1 = .ok (.getfield 22, 3) := by decide +kernel
theorem dX0_keep_4 : decode cX0_keep 4 = .ok (.bipush 30, 2) := by decide +kernel
theorem dX0_keep_6 : decode cX0_keep 6 = .ok (.if_icmp .lt 18, 3) := by decide +kernel
theorem dX0_keep_9 : decode cX0_keep 9 = .ok (.aload_n 0, 1) := by decide +kernel
theorem dX0_keep_10 : decode cX0_keep 10 = .ok (.aload_n 0, 1) := by decide +kernel
theorem dX0_keep_11 : decode cX0_keep 11 = .ok (.iconst 1, 1) := by decide +kernel
theorem dX0_keep_12 : decode cX0_keep 12 = .ok (.invokevirtual 25, 3) := by decide +kernel
theorem dX0_keep_15 : decode cX0_keep 15 = .ok (.putfield 18, 3) := by decide +kernel
theorem dX0_keep_18 : decode cX0_keep 18 = .ok (.aload_n 0, 1) := by decide +kernel
theorem dX0_keep_19 : decode cX0_keep 19 = .ok (.bipush 29, 2) := by decide +kernel
theorem dX0_keep_21 : decode cX0_keep 21 = .ok (.putfield 22, 3) := by decide +kernel
theorem dX0_keep_24 : decode cX0_keep 24 = .ok (.aload_n 0, 1) := by decide +kernel
theorem dX0_keep_25 : decode cX0_keep 25 = .ok (.getfield 11, 3) := by decide +kernel
theorem dX0_keep_28 : decode cX0_keep 28 = .ok (.aload_n 0, 1) := by decide +kernel
theorem dX0_keep_29 : decode cX0_keep 29 = .ok (.aload_n 0, 1) := by decide +kernel
theorem dX0_keep_30 : decode cX0_keep 30 = .ok (.getfield 22, 3) := by decide +kernel
theorem dX0_keep_33 : decode cX0_keep 33 = .ok (.invokevirtual 25, 3) := by decide +kernel
theorem dX0_keep_36 : decode cX0_keep 36 = .ok (.aaload, 1) := by decide +kernel
theorem dX0_keep_37 : decode cX0_keep 37 = .ok (.aload_n 1, 1) := by decide +kernel
theorem dX0_keep_38 : decode cX0_keep 38 = .ok (.invokevirtual 29, 3) := by decide +kernel
theorem dX0_keep_41 : decode cX0_keep 41 = .ok (.aload_n 0, 1) := by decide +kernel
theorem dX0_keep_42 : decode cX0_keep 42 = .ok (.dup, 1) := by decide +kernel
theorem dX0_keep_43 : decode cX0_keep 43 = .ok (.getfield 22, 3) := by decide +kernel
theorem dX0_keep_46 : decode cX0_keep 46 = .ok (.iconst 1, 1) := by decide +kernel
theorem dX0_keep_47 : decode cX0_keep 47 = .ok (.iadd, 1) := by decide +kernel
theorem dX0_keep_48 : decode cX0_keep 48 = .ok (.putfield 22, 3) := by decide +kernel
theorem dX0_keep_51 : decode cX0_keep 51 = .ok (.return_, 1) := by decide +kernel
def m0_keep : pMT := (yX0_keep, cX0_keep, 2, none)
theorem mo0_keep : mOK m0_keep 1 := ⟨tb_i 676 (by decide +kernel), wi_RX0, ⟨wn_RX0.1, wn_RX0.2, by decide +kernel⟩, by decide, plainFor_of_name wp_RX0⟩
theorem mv0_keep : mV m0_keep := ⟨tb_i 674 (by decide +kernel), tb_i 675 (by decide +kernel)⟩
def f0_keep_c24 (O : (Nat → Nat → Option Nat)) (I : (Nat → Nat → Int32)) (b0 : Nat) (b1 : Nat) : Option ((Nat → Nat → Int32)) := (f0_slot I b0 (I b0 2)).bind fun r2 => (if r2 < 0 ∨ 30 ≤ r2.toNatClampNeg then none else (f3_take I O (rO O (rO O b0 0) r2.toNatClampNeg) b1).bind fun r6 => bl (sI r6 b0 2 ((r6 b0 2) + 1)) fun I8 => some (I8))
set_option maxHeartbeats 4000000 in
set_option maxRecDepth 20000 in
theorem o0_keep_c24 {g : pG} {Qx : Option Value → pW → Prop} {Z : pZ} {L : (Nat → Nat → Int64)} {O : (Nat → Nat → Option Nat)} {res : (Nat → Nat → Int32)} (d : Nat) (hW : WT Z O) (hQ : Qx none (Z, res, L, O)) (I : (Nat → Nat → Int32)) (b0 : Nat) (b1 : Nat) (hZ_b0 : Z[b0]? = some (0, 3)) (hZ_b1 : Z[b1]? = some (3, 6)) (h : f0_keep_c24 O I b0 b1 = some res) : Ok g (d + 4, RX0, cX0_keep, 2, false, 0, 0, Z.length, pSl Z) Qx 24 [(0, .ref b0), (1, .ref b1)] [] (Z, I, L, O) := by
  unfold f0_keep_c24 at h
  refine ok_aload_n dX0_keep_24 0 rfl ?_
  have hT1 : Z[(rO O b0 0)]? = some (16, 30) := (wt_f (ci := 0) (k := 0) hW hZ_b0 rfl).2
  refine ok_getR (ci := 0) (k := 0) dX0_keep_25 flRX0_11 rfl hW hZ_b0 (by decide) ?_
  refine ok_aload_n dX0_keep_28 0 rfl ?_
  refine ok_aload_n dX0_keep_29 0 rfl ?_
  refine ok_getI (ci := 0) (k := 2) dX0_keep_30 flRX0_22 rfl hZ_b0 (by decide) ?_
  obtain ⟨r2, hr3, h⟩ := bd h
  refine ok_callV (d := ((d + 0) + 3)) (mt := m0_slot) (mc := 0) (ms := 0) (As := [.int (I b0 2)]) (r := [.ref (rO O b0 0)]) dX0_keep_33 mo0_slot mv0_slot lkRX0_25 rfl hZ_b0 (q := (RX0, TX0, 3)) rfl rfl rfl (Nat.le_of_ble_eq_true rfl) (by show _ + 1 ≤ d + _; omega) (Nat.le_refl _) (Nat.le_refl _) (pRt_mono ?_)
  refine k0_slot (d + 0) hW hZ_b0 hr3 ?_
  intro _
  show Ok g _ Qx 36 [(0, .ref b0), (1, .ref b1)] [.int r2, .ref (rO O b0 0)] (Z, I, L, O)
  obtain ⟨hg4, h⟩ := gd h
  have hT5 : Z[(rO O (rO O b0 0) r2.toNatClampNeg)]? = some (3, 6) := (wt_m hW hT1 (clamp_lt hg4)).2
  refine ok_aald2 (N := r2.toNatClampNeg) dX0_keep_36 hT1 (Or.inl rfl) hW hg4 rfl ?_
  refine ok_aload_n dX0_keep_37 1 rfl ?_
  obtain ⟨r6, hr7, h⟩ := bd h
  refine ok_callV (d := ((d + 1) + 2)) (mt := m3_take) (mc := 0) (ms := 0) (As := [.ref b1]) (r := []) dX0_keep_38 mo3_take mv3_take lkRX0_29 rfl hT5 (q := (RX3, TX3, 6)) rfl rfl rfl (Nat.le_of_ble_eq_true rfl) (by show _ + 1 ≤ d + _; omega) (Nat.le_refl _) (Nat.le_refl _) (pRt_mono ?_)
  refine k3_take (d + 1) hW hT5 hZ_b1 hr7 ?_
  intro _
  show Ok g _ Qx 41 [(0, .ref b0), (1, .ref b1)] [] (Z, r6, L, O)
  refine ok_aload_n dX0_keep_41 0 rfl ?_
  refine ok_dup dX0_keep_42 rfl ?_
  refine ok_getI (ci := 0) (k := 2) dX0_keep_43 flRX0_22 rfl hZ_b0 (by decide) ?_
  refine ok_iconst (v := 1) dX0_keep_46 (by decide) ?_
  refine ok_iadd dX0_keep_47 ?_
  obtain ⟨I8, eI8, h⟩ := blE h
  refine ok_putI2 (ci := 0) (k := 2) dX0_keep_48 flRX0_22 rfl (Or.inl rfl) hZ_b0 (by decide) eI8 ?_
  cases h
  exact ok_vret dX0_keep_51 hQ
def f0_keep (I : (Nat → Nat → Int32)) (O : (Nat → Nat → Option Nat)) (a0 : Nat) (a1 : Nat) : Option ((Nat → Nat → Int32)) := (if (I a0 2) < (30 : Int32) then f0_keep_c24 O I a0 a1 else (f0_slot I a0 (1 : Int32)).bind fun r2 => bl (sI I a0 1 r2) fun I4 => bl (sI I4 a0 2 (29 : Int32)) fun I5 => f0_keep_c24 O I5 a0 a1)
set_option maxHeartbeats 4000000 in
set_option maxRecDepth 20000 in
theorem o0_keep {g : pG} {Qx : Option Value → pW → Prop} {Z : pZ} {I : (Nat → Nat → Int32)} {L : (Nat → Nat → Int64)} {O : (Nat → Nat → Option Nat)} {a0 : Nat} {a1 : Nat} {res : (Nat → Nat → Int32)} (d : Nat) (hW : WT Z O) (hZ0 : Z[a0]? = some (0, 3)) (hZ1 : Z[a1]? = some (3, 6)) (h : f0_keep I O a0 a1 = some res) (hQ : Qx none (Z, res, L, O)) : Ok g (d + 4, RX0, cX0_keep, 2, false, 0, 0, Z.length, pSl Z) Qx 0 [(0, .ref a0), (1, .ref a1)] [] (Z, I, L, O) := by
  unfold f0_keep at h
  refine ok_aload_n dX0_keep_0 0 rfl ?_
  refine ok_getI (ci := 0) (k := 2) dX0_keep_1 flRX0_22 rfl hZ0 (by decide) ?_
  refine ok_bipush (v := 30) dX0_keep_4 (by decide) ?_
  refine ok_icmp_lt (t := 24) dX0_keep_6 (by decide) (fun hc1 => ?_) (fun hc1 => ?_)
  · have h := (if_pos hc1).symm.trans h
    refine ok_sub [0, 1] rfl ?_
    exact o0_keep_c24 d hW hQ  I a0 a1 hZ0 hZ1 h
  · have h := (if_neg hc1).symm.trans h
    refine ok_aload_n dX0_keep_9 0 rfl ?_
    refine ok_aload_n dX0_keep_10 0 rfl ?_
    refine ok_iconst (v := 1) dX0_keep_11 (by decide) ?_
    obtain ⟨r2, hr3, h⟩ := bd h
    refine ok_callV (d := ((d + 0) + 3)) (mt := m0_slot) (mc := 0) (ms := 0) (As := [.int 1]) (r := [.ref a0]) dX0_keep_12 mo0_slot mv0_slot lkRX0_25 rfl hZ0 (q := (RX0, TX0, 3)) rfl rfl rfl (Nat.le_of_ble_eq_true rfl) (by show _ + 1 ≤ d + _; omega) (Nat.le_refl _) (Nat.le_refl _) (pRt_mono ?_)
    refine k0_slot (d + 0) hW hZ0 hr3 ?_
    intro _
    show Ok g _ Qx 15 [(0, .ref a0), (1, .ref a1)] [.int r2, .ref a0] (Z, I, L, O)
    obtain ⟨I4, eI4, h⟩ := blE h
    refine ok_putI2 (ci := 0) (k := 1) dX0_keep_15 flRX0_18 rfl (Or.inl rfl) hZ0 (by decide) eI4 ?_
    refine ok_aload_n dX0_keep_18 0 rfl ?_
    refine ok_bipush (v := 29) dX0_keep_19 (by decide) ?_
    obtain ⟨I5, eI5, h⟩ := blE h
    refine ok_putI2 (ci := 0) (k := 2) dX0_keep_21 flRX0_22 rfl (Or.inl rfl) hZ0 (by decide) eI5 ?_
    refine ok_sub [0, 1] rfl ?_
    exact o0_keep_c24 d hW hQ  I5 a0 a1 hZ0 hZ1 h
theorem k0_keep {g : pG} {Q : Option Value → pW → Prop} {Z : pZ} {I : (Nat → Nat → Int32)} {L : (Nat → Nat → Int64)} {O : (Nat → Nat → Option Nat)} {a0 : Nat} {a1 : Nat} {res : (Nat → Nat → Int32)} (d : Nat) (hW : WT Z O) (hZ0 : Z[a0]? = some (0, 3)) (hZ1 : Z[a1]? = some (3, 6)) (h : f0_keep I O a0 a1 = some res) (hQ : Q none (Z, res, L, O)) : CT g (d + 4) m0_keep 0 0 [.ref a0, .ref a1] (Z, I, L, O) Q :=
  ct_of_ok (mt := m0_keep) (ini := false) mo0_keep.2.2.2.2 (fun h => by cases h) (Nat.le_of_ble_eq_true rfl) (o0_keep d hW hZ0 hZ1 h ⟨trivial, hQ, rfl, rfl⟩)
theorem dX0_takeBack_0 : decode cX0_takeBack 0 = .ok (.aload_n 0, 1) := by decide +kernel
theorem dX0_takeBack_1 : decode cX0_takeBack 1 = .ok (.getfield 22, 3) := by decide +kernel
theorem dX0_takeBack_4 : decode cX0_takeBack 4 = .ok (.ifCond .gt 5, 3) := by decide +kernel
theorem dX0_takeBack_7 : decode cX0_takeBack 7 = .ok (.iconst (-1), 1) := by decide +kernel
theorem dX0_takeBack_8 : decode cX0_takeBack 8 = .ok (.ireturn, 1) := by decide +kernel
theorem dX0_takeBack_9 : decode cX0_takeBack 9 = .ok (.aload_n 0, 1) := by decide +kernel
theorem dX0_takeBack_10 : decode cX0_takeBack 10 = .ok (.dup, 1) := by decide +kernel
theorem dX0_takeBack_11 : decode cX0_takeBack 11 = .ok (.getfield 22, 3) := by decide +kernel
theorem dX0_takeBack_14 : decode cX0_takeBack 14 = .ok (.iconst 1, 1) := by decide +kernel
theorem dX0_takeBack_15 : decode cX0_takeBack 15 = .ok (.isub, 1) := by decide +kernel
theorem dX0_takeBack_16 : decode cX0_takeBack 16 = .ok (.putfield 22, 3) := by decide +kernel
theorem dX0_takeBack_19 : decode cX0_takeBack 19 = .ok (.aload_n 1, 1) := by decide +kernel
theorem dX0_takeBack_20 : decode cX0_takeBack 20 = .ok (.aload_n 0, 1) := by decide +kernel
theorem dX0_takeBack_21 : decode cX0_takeBack 21 = .ok (.getfield 11, 3) := by decide +kernel
theorem dX0_takeBack_24 : decode cX0_takeBack 24 = .ok (.aload_n 0, 1) := by decide +kernel
theorem dX0_takeBack_25 : decode cX0_takeBack 25 = .ok (.aload_n 0, 1) := by decide +kernel
theorem dX0_takeBack_26 : decode cX0_takeBack 26 = .ok (.getfield 22, 3) := by decide +kernel
theorem dX0_takeBack_29 : decode cX0_takeBack 29 = .ok (.invokevirtual 25, 3) := by decide +kernel
theorem dX0_takeBack_32 : decode cX0_takeBack 32 = .ok (.aaload, 1) := by decide +kernel
theorem dX0_takeBack_33 : decode cX0_takeBack 33 = .ok (.invokevirtual 29, 3) := by decide +kernel
theorem dX0_takeBack_36 : decode cX0_takeBack 36 = .ok (.aload_n 0, 1) := by decide +kernel
theorem dX0_takeBack_37 : decode cX0_takeBack 37 = .ok (.getfield 22, 3) := by decide +kernel
theorem dX0_takeBack_40 : decode cX0_takeBack 40 = .ok (.ireturn, 1) := by decide +kernel
def m0_takeBack : pMT := (yX0_takeBack, cX0_takeBack, 2, some .int)
theorem mo0_takeBack : mOK m0_takeBack 1 := ⟨tb_i 900 (by decide +kernel), wi_RX0, ⟨wn_RX0.1, wn_RX0.2, by decide +kernel⟩, by decide, plainFor_of_name wp_RX0⟩
theorem mv0_takeBack : mV m0_takeBack := ⟨tb_i 898 (by decide +kernel), tb_i 899 (by decide +kernel)⟩
def f0_takeBack (I : (Nat → Nat → Int32)) (O : (Nat → Nat → Option Nat)) (a0 : Nat) (a1 : Nat) : Option (Int32 × (Nat → Nat → Int32)) := (if 0 < (I a0 2) then bl (sI I a0 2 ((I a0 2) - 1)) fun I2 => (f0_slot I2 a0 (I2 a0 2)).bind fun r4 => (if r4 < 0 ∨ 30 ≤ r4.toNatClampNeg then none else (f3_take I2 O a1 (rO O (rO O a0 0) r4.toNatClampNeg)).bind fun r8 => some ((r8 a0 2), r8)) else some (((-1) : Int32), I))
set_option maxHeartbeats 4000000 in
set_option maxRecDepth 20000 in
theorem o0_takeBack {g : pG} {Qx : Option Value → pW → Prop} {Z : pZ} {I : (Nat → Nat → Int32)} {L : (Nat → Nat → Int64)} {O : (Nat → Nat → Option Nat)} {a0 : Nat} {a1 : Nat} {res : Int32 × (Nat → Nat → Int32)} (d : Nat) (hW : WT Z O) (hZ0 : Z[a0]? = some (0, 3)) (hZ1 : Z[a1]? = some (3, 6)) (h : f0_takeBack I O a0 a1 = some res) (hQ : Qx (some (.int res.1)) (Z, res.2, L, O)) : Ok g (d + 4, RX0, cX0_takeBack, 2, false, 0, 0, Z.length, pSl Z) Qx 0 [(0, .ref a0), (1, .ref a1)] [] (Z, I, L, O) := by
  unfold f0_takeBack at h
  refine ok_aload_n dX0_takeBack_0 0 rfl ?_
  refine ok_getI (ci := 0) (k := 2) dX0_takeBack_1 flRX0_22 rfl hZ0 (by decide) ?_
  refine ok_if_gt (t := 9) dX0_takeBack_4 (by decide) (fun hc1 => ?_) (fun hc1 => ?_)
  · have h := (if_pos hc1).symm.trans h
    refine ok_aload_n dX0_takeBack_9 0 rfl ?_
    refine ok_dup dX0_takeBack_10 rfl ?_
    refine ok_getI (ci := 0) (k := 2) dX0_takeBack_11 flRX0_22 rfl hZ0 (by decide) ?_
    refine ok_iconst (v := 1) dX0_takeBack_14 (by decide) ?_
    refine ok_isub dX0_takeBack_15 ?_
    obtain ⟨I2, eI2, h⟩ := blE h
    refine ok_putI2 (ci := 0) (k := 2) dX0_takeBack_16 flRX0_22 rfl (Or.inl rfl) hZ0 (by decide) eI2 ?_
    refine ok_aload_n dX0_takeBack_19 1 rfl ?_
    refine ok_aload_n dX0_takeBack_20 0 rfl ?_
    have hT3 : Z[(rO O a0 0)]? = some (16, 30) := (wt_f (ci := 0) (k := 0) hW hZ0 rfl).2
    refine ok_getR (ci := 0) (k := 0) dX0_takeBack_21 flRX0_11 rfl hW hZ0 (by decide) ?_
    refine ok_aload_n dX0_takeBack_24 0 rfl ?_
    refine ok_aload_n dX0_takeBack_25 0 rfl ?_
    refine ok_getI (ci := 0) (k := 2) dX0_takeBack_26 flRX0_22 rfl hZ0 (by decide) ?_
    obtain ⟨r4, hr5, h⟩ := bd h
    refine ok_callV (d := ((d + 0) + 3)) (mt := m0_slot) (mc := 0) (ms := 0) (As := [.int (I2 a0 2)]) (r := [.ref (rO O a0 0), .ref a1]) dX0_takeBack_29 mo0_slot mv0_slot lkRX0_25 rfl hZ0 (q := (RX0, TX0, 3)) rfl rfl rfl (Nat.le_of_ble_eq_true rfl) (by show _ + 1 ≤ d + _; omega) (Nat.le_refl _) (Nat.le_refl _) (pRt_mono ?_)
    refine k0_slot (d + 0) hW hZ0 hr5 ?_
    intro _
    show Ok g _ Qx 32 [(0, .ref a0), (1, .ref a1)] [.int r4, .ref (rO O a0 0), .ref a1] (Z, I2, L, O)
    obtain ⟨hg6, h⟩ := gd h
    have hT7 : Z[(rO O (rO O a0 0) r4.toNatClampNeg)]? = some (3, 6) := (wt_m hW hT3 (clamp_lt hg6)).2
    refine ok_aald2 (N := r4.toNatClampNeg) dX0_takeBack_32 hT3 (Or.inl rfl) hW hg6 rfl ?_
    obtain ⟨r8, hr9, h⟩ := bd h
    refine ok_callV (d := ((d + 1) + 2)) (mt := m3_take) (mc := 0) (ms := 0) (As := [.ref (rO O (rO O a0 0) r4.toNatClampNeg)]) (r := []) dX0_takeBack_33 mo3_take mv3_take lkRX0_29 rfl hZ1 (q := (RX3, TX3, 6)) rfl rfl rfl (Nat.le_of_ble_eq_true rfl) (by show _ + 1 ≤ d + _; omega) (Nat.le_refl _) (Nat.le_refl _) (pRt_mono ?_)
    refine k3_take (d + 1) hW hZ1 hT7 hr9 ?_
    intro _
    show Ok g _ Qx 36 [(0, .ref a0), (1, .ref a1)] [] (Z, r8, L, O)
    refine ok_aload_n dX0_takeBack_36 0 rfl ?_
    refine ok_getI (ci := 0) (k := 2) dX0_takeBack_37 flRX0_22 rfl hZ0 (by decide) ?_
    cases h
    exact ok_iret dX0_takeBack_40 hQ
  · have h := (if_neg hc1).symm.trans h
    refine ok_iconst (v := (-1)) dX0_takeBack_7 (by decide) ?_
    cases h
    exact ok_iret dX0_takeBack_8 hQ
theorem k0_takeBack {g : pG} {Q : Option Value → pW → Prop} {Z : pZ} {I : (Nat → Nat → Int32)} {L : (Nat → Nat → Int64)} {O : (Nat → Nat → Option Nat)} {a0 : Nat} {a1 : Nat} {res : Int32 × (Nat → Nat → Int32)} (d : Nat) (hW : WT Z O) (hZ0 : Z[a0]? = some (0, 3)) (hZ1 : Z[a1]? = some (3, 6)) (h : f0_takeBack I O a0 a1 = some res) (hQ : Q (some (.int res.1)) (Z, res.2, L, O)) : CT g (d + 4) m0_takeBack 0 0 [.ref a0, .ref a1] (Z, I, L, O) Q :=
  ct_of_ok (mt := m0_takeBack) (ini := false) mo0_takeBack.2.2.2.2 (fun h => by cases h) (Nat.le_of_ble_eq_true rfl) (o0_takeBack d hW hZ0 hZ1 h ⟨trivial, hQ, rfl, rfl⟩)
theorem dX0_tellWear_0 : decode cX0_tellWear 0 = .ok (.iload_n 1, 1) := by decide +kernel
theorem dX0_tellWear_1 : decode cX0_tellWear 1 = .ok (.ifCond .lt 35, 3) := by decide +kernel
theorem dX0_tellWear_4 : decode cX0_tellWear 4 = .ok (.iload_n 1, 1) := by decide +kernel
theorem dX0_tellWear_5 : decode cX0_tellWear 5 = .ok (.bipush 80, 2) := by decide +kernel
theorem dX0_tellWear_7 : decode cX0_tellWear 7 = .ok (.if_icmp .ge 29, 3) := by decide +kernel
theorem dX0_tellWear_10 : decode cX0_tellWear 10 = .ok (.iconst 0, 1) := by decide +kernel
theorem dX0_tellWear_11 : decode cX0_tellWear 11 = .ok (.istore_n 3, 1) := by decide +kernel
theorem dX0_tellWear_12 : decode cX0_tellWear 12 = .ok (.iload_n 3, 1) := by decide +kernel
theorem dX0_tellWear_13 : decode cX0_tellWear 13 = .ok (.bipush 30, 2) := by decide +kernel
theorem dX0_tellWear_15 : decode cX0_tellWear 15 = .ok (.if_icmp .ge 21, 3) := by decide +kernel
theorem dX0_tellWear_18 : decode cX0_tellWear 18 = .ok (.aload_n 0, 1) := by decide +kernel
theorem dX0_tellWear_19 : decode cX0_tellWear 19 = .ok (.getfield 11, 3) := by decide +kernel
theorem dX0_tellWear_22 : decode cX0_tellWear 22 = .ok (.iload_n 3, 1) := by decide +kernel
theorem dX0_tellWear_23 : decode cX0_tellWear 23 = .ok (.aaload, 1) := by decide +kernel
theorem dX0_tellWear_24 : decode cX0_tellWear 24 = .ok (.getfield 33, 3) := by decide +kernel
theorem dX0_tellWear_27 : decode cX0_tellWear 27 = .ok (.iload_n 1, 1) := by decide +kernel
theorem dX0_tellWear_28 : decode cX0_tellWear 28 = .ok (.iload_n 2, 1) := by decide +kernel
theorem dX0_tellWear_29 : decode cX0_tellWear 29 = .ok (.iastore, 1) := by decide +kernel
theorem dX0_tellWear_30 : decode cX0_tellWear 30 = .ok (.iinc 3 1, 3) := by decide +kernel
theorem dX0_tellWear_33 : decode cX0_tellWear 33 = .ok (.goto (-21), 3) := by decide +kernel
theorem dX0_tellWear_36 : decode cX0_tellWear 36 = .ok (.return_, 1) := by decide +kernel
def m0_tellWear : pMT := (yX0_tellWear, cX0_tellWear, 4, none)
theorem mo0_tellWear : mOK m0_tellWear 2 := ⟨tb_i 413 (by decide +kernel), wi_RX0, ⟨wn_RX0.1, wn_RX0.2, by decide +kernel⟩, by decide, plainFor_of_name wp_RX0⟩
theorem mv0_tellWear : mV m0_tellWear := ⟨tb_i 411 (by decide +kernel), tb_i 412 (by decide +kernel)⟩
def f0_tellWear_c12 (n : Nat) (O : (Nat → Nat → Option Nat)) : Nat → (Nat → Nat → Int32) → Nat → Int32 → Int32 → Int32 → Option ((Nat → Nat → Int32))
  | 0, _, _, _, _, _ => none
  | m + 1, I, b0, y1, y2, y3 => (if (30 : Int32) ≤ y3 then some (I) else (if y3 < 0 ∨ 30 ≤ y3.toNatClampNeg then none else (if y1 < 0 ∨ 80 ≤ y1.toNatClampNeg then none else bl (sI I (rO O (rO O (rO O b0 0) y3.toNatClampNeg) 0) y1.toNatClampNeg y2) fun I7 => f0_tellWear_c12 n O m I7 b0 y1 y2 (y3 + 1))))
set_option maxHeartbeats 4000000 in
set_option maxRecDepth 20000 in
theorem o0_tellWear_c12 {g : pG} {Qx : Option Value → pW → Prop} {Z : pZ} {L : (Nat → Nat → Int64)} {O : (Nat → Nat → Option Nat)} {n : Nat} {res : (Nat → Nat → Int32)} (d : Nat) (hW : WT Z O) (hQ : Qx none (Z, res, L, O)) : ∀ (m : Nat) (I : (Nat → Nat → Int32)) (b0 : Nat) (y1 : Int32) (y2 : Int32) (y3 : Int32), (Z[b0]? = some (0, 3)) → f0_tellWear_c12 n O m I b0 y1 y2 y3 = some res → Ok g (d + 2, RX0, cX0_tellWear, 4, false, 0, 0, Z.length, pSl Z) Qx 12 [(0, .ref b0), (1, .int y1), (2, .int y2), (3, .int y3)] [] (Z, I, L, O) := by
  intro m
  induction m with
  | zero => intro I b0 y1 y2 y3 hZ_b0 h; rw [f0_tellWear_c12] at h; cases h
  | succ m ih =>
    intro I b0 y1 y2 y3 hZ_b0 h
    rw [f0_tellWear_c12] at h
    refine ok_iload_n dX0_tellWear_12 3 rfl ?_
    refine ok_bipush (v := 30) dX0_tellWear_13 (by decide) ?_
    refine ok_icmp_ge (t := 36) dX0_tellWear_15 (by decide) (fun hc1 => ?_) (fun hc1 => ?_)
    · have h := (if_pos hc1).symm.trans h
      cases h
      exact ok_vret dX0_tellWear_36 hQ
    · have h := (if_neg hc1).symm.trans h
      refine ok_aload_n dX0_tellWear_18 0 rfl ?_
      have hT2 : Z[(rO O b0 0)]? = some (16, 30) := (wt_f (ci := 0) (k := 0) hW hZ_b0 rfl).2
      refine ok_getR (ci := 0) (k := 0) dX0_tellWear_19 flRX0_11 rfl hW hZ_b0 (by decide) ?_
      refine ok_iload_n dX0_tellWear_22 3 rfl ?_
      obtain ⟨hg3, h⟩ := gd h
      have hT4 : Z[(rO O (rO O b0 0) y3.toNatClampNeg)]? = some (3, 6) := (wt_m hW hT2 (clamp_lt hg3)).2
      refine ok_aald2 (N := y3.toNatClampNeg) dX0_tellWear_23 hT2 (Or.inl rfl) hW hg3 rfl ?_
      have hT5 : Z[(rO O (rO O (rO O b0 0) y3.toNatClampNeg) 0)]? = some (13, 80) := (wt_f (ci := 3) (k := 0) hW hT4 rfl).2
      refine ok_getR (ci := 3) (k := 0) dX0_tellWear_24 flRX0_33 rfl hW hT4 (by decide) ?_
      refine ok_iload_n dX0_tellWear_27 1 rfl ?_
      refine ok_iload_n dX0_tellWear_28 2 rfl ?_
      obtain ⟨hg6, h⟩ := gd h
      obtain ⟨I7, eI7, h⟩ := blE h
      refine ok_iast3 dX0_tellWear_29 hT5 hg6 rfl eI7 ?_
      refine ok_iinc (u := (y3 + 1)) (l' := [(3, .int (y3 + 1)), (0, .ref b0), (1, .int y1), (2, .int y2)]) dX0_tellWear_30 3 rfl rfl (Nat.le_of_ble_eq_true rfl) rfl ?_
      refine ok_goto (t := 12) dX0_tellWear_33 (by decide) ?_
      refine ok_sub [1, 2, 3, 0] rfl ?_
      exact ih I7 b0 y1 y2 (y3 + 1) hZ_b0 h
def f0_tellWear (n : Nat) (I : (Nat → Nat → Int32)) (O : (Nat → Nat → Option Nat)) (a0 : Nat) (x1 : Int32) (x2 : Int32) : Option ((Nat → Nat → Int32)) := (if x1 < 0 then some (I) else (if (80 : Int32) ≤ x1 then some (I) else f0_tellWear_c12 n O n I a0 x1 x2 (0 : Int32)))
set_option maxHeartbeats 4000000 in
set_option maxRecDepth 20000 in
theorem o0_tellWear {g : pG} {Qx : Option Value → pW → Prop} {Z : pZ} {I : (Nat → Nat → Int32)} {L : (Nat → Nat → Int64)} {O : (Nat → Nat → Option Nat)} {n : Nat} {a0 : Nat} {x1 : Int32} {x2 : Int32} {res : (Nat → Nat → Int32)} (d : Nat) (hW : WT Z O) (hZ0 : Z[a0]? = some (0, 3)) (h : f0_tellWear n I O a0 x1 x2 = some res) (hQ : Qx none (Z, res, L, O)) : Ok g (d + 2, RX0, cX0_tellWear, 4, false, 0, 0, Z.length, pSl Z) Qx 0 [(0, .ref a0), (1, .int x1), (2, .int x2)] [] (Z, I, L, O) := by
  unfold f0_tellWear at h
  refine ok_iload_n dX0_tellWear_0 1 rfl ?_
  refine ok_if_lt (t := 36) dX0_tellWear_1 (by decide) (fun hc1 => ?_) (fun hc1 => ?_)
  · have h := (if_pos hc1).symm.trans h
    cases h
    exact ok_vret dX0_tellWear_36 hQ
  · have h := (if_neg hc1).symm.trans h
    refine ok_iload_n dX0_tellWear_4 1 rfl ?_
    refine ok_bipush (v := 80) dX0_tellWear_5 (by decide) ?_
    refine ok_icmp_ge (t := 36) dX0_tellWear_7 (by decide) (fun hc2 => ?_) (fun hc2 => ?_)
    · have h := (if_pos hc2).symm.trans h
      cases h
      exact ok_vret dX0_tellWear_36 hQ
    · have h := (if_neg hc2).symm.trans h
      refine ok_iconst (v := 0) dX0_tellWear_10 (by decide) ?_
      refine ok_istore_n (l' := [(3, .int 0), (0, .ref a0), (1, .int x1), (2, .int x2)]) dX0_tellWear_11 rfl (Nat.le_of_ble_eq_true rfl) rfl ?_
      refine ok_sub [1, 2, 3, 0] rfl ?_
      exact o0_tellWear_c12 d hW hQ  n I a0 x1 x2 (0 : Int32) hZ0 h
theorem k0_tellWear {g : pG} {Q : Option Value → pW → Prop} {Z : pZ} {I : (Nat → Nat → Int32)} {L : (Nat → Nat → Int64)} {O : (Nat → Nat → Option Nat)} {n : Nat} {a0 : Nat} {x1 : Int32} {x2 : Int32} {res : (Nat → Nat → Int32)} (d : Nat) (hW : WT Z O) (hZ0 : Z[a0]? = some (0, 3)) (h : f0_tellWear n I O a0 x1 x2 = some res) (hQ : Q none (Z, res, L, O)) : CT g (d + 2) m0_tellWear 0 0 [.ref a0, .int x1, .int x2] (Z, I, L, O) Q :=
  ct_of_ok (mt := m0_tellWear) (ini := false) mo0_tellWear.2.2.2.2 (fun h => by cases h) (Nat.le_of_ble_eq_true rfl) (o0_tellWear d hW hZ0 h ⟨trivial, hQ, rfl, rfl⟩)
