theorem flRX9_12 : FL RX9 12 9 0 := ⟨(RX9, TX9, 10), rfl, by decide, tb_i 124 (by decide +kernel)⟩
theorem flRX9_21 : FL RX9 21 9 1 := ⟨(RX9, TX9, 10), rfl, by decide, tb_i 127 (by decide +kernel)⟩
theorem flRX9_25 : FL RX9 25 9 2 := ⟨(RX9, TX9, 10), rfl, by decide, tb_i 129 (by decide +kernel)⟩
theorem flRX9_29 : FL RX9 29 9 3 := ⟨(RX9, TX9, 10), rfl, by decide, tb_i 132 (by decide +kernel)⟩
theorem flRX9_32 : FL RX9 32 9 4 := ⟨(RX9, TX9, 10), rfl, by decide, tb_i 134 (by decide +kernel)⟩
theorem flRX9_35 : FL RX9 35 9 5 := ⟨(RX9, TX9, 10), rfl, by decide, tb_i 136 (by decide +kernel)⟩
theorem flRX9_38 : FL RX9 38 9 9 := ⟨(RX9, TX9, 10), rfl, by decide, tb_i 145 (by decide +kernel)⟩
theorem flRX9_55 : FL RX9 55 9 6 := ⟨(RX9, TX9, 10), rfl, by decide, tb_i 138 (by decide +kernel)⟩
theorem flRX9_58 : FL RX9 58 9 7 := ⟨(RX9, TX9, 10), rfl, by decide, tb_i 141 (by decide +kernel)⟩
theorem flRX9_61 : FL RX9 61 9 8 := ⟨(RX9, TX9, 10), rfl, by decide, tb_i 143 (by decide +kernel)⟩
theorem flRX9_64 : FL RX9 64 10 2 := ⟨(RX10, TX10, 5), rfl, by decide, tb_i 83 (by decide +kernel)⟩
theorem lkRX9_42 : Cond.methodLink RX9 42 yX10_take ∈ lw_tbl := tb_i 1282 (by decide +kernel)
theorem lkRX9_46 : Cond.methodLink RX9 46 yX0_take ∈ lw_tbl := tb_i 1283 (by decide +kernel)
theorem lkRX9_49 : Cond.methodLink RX9 49 arraycopyName ∈ lw_tbl := tb_i 1287 (by decide +kernel)
theorem lkRX9_68 : Cond.methodLink RX9 68 yX0_keep ∈ lw_tbl := tb_i 673 (by decide +kernel)
theorem dX9_take_0 : decode cX9_take 0 = .ok (.aload_n 0, 1) := by decide +kernel
theorem dX9_take_1 : decode cX9_take 1 = .ok (.getfield 12, 3) := by decide +kernel
theorem dX9_take_4 : decode cX9_take 4 = .ok (.aload_n 1, 1) := by decide +kernel
theorem dX9_take_5 : decode cX9_take 5 = .ok (.getfield 12, 3) := by decide +kernel
theorem dX9_take_8 : decode cX9_take 8 = .ok (.invokevirtual 42, 3) := by decide +kernel
theorem dX9_take_11 : decode cX9_take 11 = .ok (.aload_n 0, 1) := by decide +kernel
theorem dX9_take_12 : decode cX9_take 12 = .ok (.getfield 21, 3) := by decide +kernel
theorem dX9_take_15 : decode cX9_take 15 = .ok (.aload_n 1, 1) := by decide +kernel
theorem dX9_take_16 : decode cX9_take 16 = .ok (.getfield 21, 3) := by decide +kernel
theorem dX9_take_19 : decode cX9_take 19 = .ok (.invokevirtual 46, 3) := by decide +kernel
theorem dX9_take_22 : decode cX9_take 22 = .ok (.aload_n 1, 1) := by decide +kernel
theorem dX9_take_23 : decode cX9_take 23 = .ok (.getfield 25, 3) := by decide +kernel
theorem dX9_take_26 : decode cX9_take 26 = .ok (.iconst 0, 1) := by decide +kernel
theorem dX9_take_27 : decode cX9_take 27 = .ok (.aload_n 0, 1) := by decide +kernel
theorem dX9_take_28 : decode cX9_take 28 = .ok (.getfield 25, 3) := by decide +kernel
theorem dX9_take_31 : decode cX9_take 31 = .ok (.iconst 0, 1) := by decide +kernel
theorem dX9_take_32 : decode cX9_take 32 = .ok (.bipush 8, 2) := by decide +kernel
theorem dX9_take_34 : decode cX9_take 34 = .ok (.invokestatic 49, 3) := by decide +kernel
theorem dX9_take_37 : decode cX9_take 37 = .ok (.aload_n 1, 1) := by decide +kernel
theorem dX9_take_38 : decode cX9_take 38 = .ok (.getfield 29, 3) := by decide +kernel
theorem dX9_take_41 : decode cX9_take 41 = .ok (.iconst 0, 1) := by decide +kernel
theorem dX9_take_42 : decode cX9_take 42 = .ok (.aload_n 0, 1) := by decide +kernel
theorem dX9_take_43 : decode cX9_take 43 = .ok (.getfield 29, 3) := by decide +kernel
theorem dX9_take_46 : decode cX9_take 46 = .ok (.iconst 0, 1) := by decide +kernel
theorem dX9_take_47 : decode cX9_take 47 = .ok (.bipush 8, 2) := by decide +kernel
theorem dX9_take_49 : decode cX9_take 49 = .ok (.invokestatic 49, 3) := by decide +kernel
theorem dX9_take_52 : decode cX9_take 52 = .ok (.aload_n 1, 1) := by decide +kernel
theorem dX9_take_53 : decode cX9_take 53 = .ok (.getfield 32, 3) := by decide +kernel
theorem dX9_take_56 : decode cX9_take 56 = .ok (.iconst 0, 1) := by decide +kernel
theorem dX9_take_57 : decode cX9_take 57 = .ok (.aload_n 0, 1) := by decide +kernel
theorem dX9_take_58 : decode cX9_take 58 = .ok (.getfield 32, 3) := by decide +kernel
theorem dX9_take_61 : decode cX9_take 61 = .ok (.iconst 0, 1) := by decide +kernel
theorem dX9_take_62 : decode cX9_take 62 = .ok (.bipush 8, 2) := by decide +kernel
theorem dX9_take_64 : decode cX9_take 64 = .ok (.invokestatic 49, 3) := by decide +kernel
theorem dX9_take_67 : decode cX9_take 67 = .ok (.aload_n 1, 1) := by decide +kernel
theorem dX9_take_68 : decode cX9_take 68 = .ok (.getfield 35, 3) := by decide +kernel
theorem dX9_take_71 : decode cX9_take 71 = .ok (.iconst 0, 1) := by decide +kernel
theorem dX9_take_72 : decode cX9_take 72 = .ok (.aload_n 0, 1) := by decide +kernel
theorem dX9_take_73 : decode cX9_take 73 = .ok (.getfield 35, 3) := by decide +kernel
theorem dX9_take_76 : decode cX9_take 76 = .ok (.iconst 0, 1) := by decide +kernel
theorem dX9_take_77 : decode cX9_take 77 = .ok (.bipush 8, 2) := by decide +kernel
theorem dX9_take_79 : decode cX9_take 79 = .ok (.invokestatic 49, 3) := by decide +kernel
theorem dX9_take_82 : decode cX9_take 82 = .ok (.aload_n 0, 1) := by decide +kernel
theorem dX9_take_83 : decode cX9_take 83 = .ok (.aload_n 1, 1) := by decide +kernel
theorem dX9_take_84 : decode cX9_take 84 = .ok (.getfield 55, 3) := by decide +kernel
theorem dX9_take_87 : decode cX9_take 87 = .ok (.putfield 55, 3) := by decide +kernel
theorem dX9_take_90 : decode cX9_take 90 = .ok (.aload_n 0, 1) := by decide +kernel
theorem dX9_take_91 : decode cX9_take 91 = .ok (.aload_n 1, 1) := by decide +kernel
theorem dX9_take_92 : decode cX9_take 92 = .ok (.getfield 58, 3) := by decide +kernel
theorem dX9_take_95 : decode cX9_take 95 = .ok (.putfield 58, 3) := by decide +kernel
theorem dX9_take_98 : decode cX9_take 98 = .ok (.aload_n 0, 1) := by decide +kernel
theorem dX9_take_99 : decode cX9_take 99 = .ok (.aload_n 1, 1) := by decide +kernel
theorem dX9_take_100 : decode cX9_take 100 = .ok (.getfield 61, 3) := by decide +kernel
theorem dX9_take_103 : decode cX9_take 103 = .ok (.putfield 61, 3) := by decide +kernel
theorem dX9_take_106 : decode cX9_take 106 = .ok (.aload_n 0, 1) := by decide +kernel
theorem dX9_take_107 : decode cX9_take 107 = .ok (.aload_n 1, 1) := by decide +kernel
theorem dX9_take_108 : decode cX9_take 108 = .ok (.getfield 38, 3) := by decide +kernel
theorem dX9_take_111 : decode cX9_take 111 = .ok (.putfield 38, 3) := by decide +kernel
theorem dX9_take_114 : decode cX9_take 114 = .ok (.return_, 1) := by decide +kernel
theorem wi_RX9 : Cond.initialized RX9 ∈ lw_tbl := tb_i 2 (by decide +kernel)
theorem wn_RX9 : RX9 ≠ "java/lang/invoke/MethodHandle" ∧ RX9 ≠ "java/lang/invoke/VarHandle" := ⟨by decide +kernel, by decide +kernel⟩
theorem wp_RX9 : plainName RX9 = true := by decide +kernel
def m9_take : pMT := (yX9_take, cX9_take, 2, none)
theorem mo9_take : mOK m9_take 1 := ⟨tb_i 1281 (by decide +kernel), wi_RX9, ⟨wn_RX9.1, wn_RX9.2, by decide +kernel⟩, by decide, plainFor_of_name wp_RX9⟩
theorem mv9_take : mV m9_take := ⟨tb_i 1279 (by decide +kernel), tb_i 1280 (by decide +kernel)⟩
def f9_take (n : Nat) (I : (Nat → Nat → Int32)) (O : (Nat → Nat → Option Nat)) (a0 : Nat) (a1 : Nat) : Option ((Nat → Nat → Int32)) := (f10_take I O (rO O a0 0) (rO O a1 0)).bind fun r3 => (f0_take n r3 O (rO O a0 1) (rO O a1 1)).bind fun r7 => bl (cpI r7 (rO O a1 2) (rO O a0 2) 0 0 8) fun I11 => bl (cpI I11 (rO O a1 3) (rO O a0 3) 0 0 8) fun I14 => bl (cpI I14 (rO O a1 4) (rO O a0 4) 0 0 8) fun I17 => bl (cpI I17 (rO O a1 5) (rO O a0 5) 0 0 8) fun I20 => bl (sI I20 a0 6 (I20 a1 6)) fun I21 => bl (sI I21 a0 7 (I21 a1 7)) fun I22 => bl (sI I22 a0 8 (I22 a1 8)) fun I23 => bl (sI I23 a0 9 (I23 a1 9)) fun I24 => some (I24)
set_option maxHeartbeats 4000000 in
set_option maxRecDepth 20000 in
theorem o9_take {g : pG} {Qx : Option Value → pW → Prop} {Z : pZ} {I : (Nat → Nat → Int32)} {L : (Nat → Nat → Int64)} {O : (Nat → Nat → Option Nat)} {n : Nat} {a0 : Nat} {a1 : Nat} {res : (Nat → Nat → Int32)} (d : Nat) (hW : WT Z O) (hZ0 : Z[a0]? = some (9, 10)) (hZ1 : Z[a1]? = some (9, 10)) (h : f9_take n I O a0 a1 = some res) (hQ : Qx none (Z, res, L, O)) : Ok g (d + 5, RX9, cX9_take, 2, false, 0, 0, Z.length, pSl Z) Qx 0 [(0, .ref a0), (1, .ref a1)] [] (Z, I, L, O) := by
  unfold f9_take at h
  refine ok_aload_n dX9_take_0 0 rfl ?_
  have hT1 : Z[(rO O a0 0)]? = some (10, 5) := (wt_f (ci := 9) (k := 0) hW hZ0 rfl).2
  refine ok_getR (ci := 9) (k := 0) dX9_take_1 flRX9_12 rfl hW hZ0 (by decide) ?_
  refine ok_aload_n dX9_take_4 1 rfl ?_
  have hT2 : Z[(rO O a1 0)]? = some (10, 5) := (wt_f (ci := 9) (k := 0) hW hZ1 rfl).2
  refine ok_getR (ci := 9) (k := 0) dX9_take_5 flRX9_12 rfl hW hZ1 (by decide) ?_
  obtain ⟨r3, hr4, h⟩ := bd h
  refine ok_callV (d := ((d + 1) + 3)) (mt := m10_take) (mc := 0) (ms := 0) (As := [.ref (rO O a1 0)]) (r := []) dX9_take_8 mo10_take mv10_take lkRX9_42 rfl hT1 (q := (RX10, TX10, 5)) rfl rfl rfl (Nat.le_of_ble_eq_true rfl) (by show _ + 1 ≤ d + _; omega) (Nat.le_refl _) (Nat.le_refl _) (pRt_mono ?_)
  refine k10_take (d + 1) hW hT1 hT2 hr4 ?_
  intro _
  show Ok g _ Qx 11 [(0, .ref a0), (1, .ref a1)] [] (Z, r3, L, O)
  refine ok_aload_n dX9_take_11 0 rfl ?_
  have hT5 : Z[(rO O a0 1)]? = some (0, 3) := (wt_f (ci := 9) (k := 1) hW hZ0 rfl).2
  refine ok_getR (ci := 9) (k := 1) dX9_take_12 flRX9_21 rfl hW hZ0 (by decide) ?_
  refine ok_aload_n dX9_take_15 1 rfl ?_
  have hT6 : Z[(rO O a1 1)]? = some (0, 3) := (wt_f (ci := 9) (k := 1) hW hZ1 rfl).2
  refine ok_getR (ci := 9) (k := 1) dX9_take_16 flRX9_21 rfl hW hZ1 (by decide) ?_
  obtain ⟨r7, hr8, h⟩ := bd h
  refine ok_callV (d := ((d + 0) + 4)) (mt := m0_take) (mc := 0) (ms := 0) (As := [.ref (rO O a1 1)]) (r := []) dX9_take_19 mo0_take mv0_take lkRX9_46 rfl hT5 (q := (RX0, TX0, 3)) rfl rfl rfl (Nat.le_of_ble_eq_true rfl) (by show _ + 1 ≤ d + _; omega) (Nat.le_refl _) (Nat.le_refl _) (pRt_mono ?_)
  refine k0_take (d + 0) hW hT5 hT6 hr8 ?_
  intro _
  show Ok g _ Qx 22 [(0, .ref a0), (1, .ref a1)] [] (Z, r7, L, O)
  refine ok_aload_n dX9_take_22 1 rfl ?_
  have hT9 : Z[(rO O a1 2)]? = some (13, 8) := (wt_f (ci := 9) (k := 2) hW hZ1 rfl).2
  refine ok_getR (ci := 9) (k := 2) dX9_take_23 flRX9_25 rfl hW hZ1 (by decide) ?_
  refine ok_iconst (v := 0) dX9_take_26 (by decide) ?_
  refine ok_aload_n dX9_take_27 0 rfl ?_
  have hT10 : Z[(rO O a0 2)]? = some (13, 8) := (wt_f (ci := 9) (k := 2) hW hZ0 rfl).2
  refine ok_getR (ci := 9) (k := 2) dX9_take_28 flRX9_25 rfl hW hZ0 (by decide) ?_
  refine ok_iconst (v := 0) dX9_take_31 (by decide) ?_
  refine ok_bipush (v := 8) dX9_take_32 (by decide) ?_
  obtain ⟨I11, eI11, h⟩ := blE h
  refine ok_copy2 (N := 8) (S := 0) (T := 0) dX9_take_34 lkRX9_49 hT9 hT10 (by decide) (by decide) (by decide) (by decide) (by decide) (by decide) (by decide) (by decide) (Nat.le_of_ble_eq_true rfl) (by show 1 ≤ d + _; omega) eI11 ?_
  refine ok_aload_n dX9_take_37 1 rfl ?_
  have hT12 : Z[(rO O a1 3)]? = some (13, 8) := (wt_f (ci := 9) (k := 3) hW hZ1 rfl).2
  refine ok_getR (ci := 9) (k := 3) dX9_take_38 flRX9_29 rfl hW hZ1 (by decide) ?_
  refine ok_iconst (v := 0) dX9_take_41 (by decide) ?_
  refine ok_aload_n dX9_take_42 0 rfl ?_
  have hT13 : Z[(rO O a0 3)]? = some (13, 8) := (wt_f (ci := 9) (k := 3) hW hZ0 rfl).2
  refine ok_getR (ci := 9) (k := 3) dX9_take_43 flRX9_29 rfl hW hZ0 (by decide) ?_
  refine ok_iconst (v := 0) dX9_take_46 (by decide) ?_
  refine ok_bipush (v := 8) dX9_take_47 (by decide) ?_
  obtain ⟨I14, eI14, h⟩ := blE h
  refine ok_copy2 (N := 8) (S := 0) (T := 0) dX9_take_49 lkRX9_49 hT12 hT13 (by decide) (by decide) (by decide) (by decide) (by decide) (by decide) (by decide) (by decide) (Nat.le_of_ble_eq_true rfl) (by show 1 ≤ d + _; omega) eI14 ?_
  refine ok_aload_n dX9_take_52 1 rfl ?_
  have hT15 : Z[(rO O a1 4)]? = some (13, 8) := (wt_f (ci := 9) (k := 4) hW hZ1 rfl).2
  refine ok_getR (ci := 9) (k := 4) dX9_take_53 flRX9_32 rfl hW hZ1 (by decide) ?_
  refine ok_iconst (v := 0) dX9_take_56 (by decide) ?_
  refine ok_aload_n dX9_take_57 0 rfl ?_
  have hT16 : Z[(rO O a0 4)]? = some (13, 8) := (wt_f (ci := 9) (k := 4) hW hZ0 rfl).2
  refine ok_getR (ci := 9) (k := 4) dX9_take_58 flRX9_32 rfl hW hZ0 (by decide) ?_
  refine ok_iconst (v := 0) dX9_take_61 (by decide) ?_
  refine ok_bipush (v := 8) dX9_take_62 (by decide) ?_
  obtain ⟨I17, eI17, h⟩ := blE h
  refine ok_copy2 (N := 8) (S := 0) (T := 0) dX9_take_64 lkRX9_49 hT15 hT16 (by decide) (by decide) (by decide) (by decide) (by decide) (by decide) (by decide) (by decide) (Nat.le_of_ble_eq_true rfl) (by show 1 ≤ d + _; omega) eI17 ?_
  refine ok_aload_n dX9_take_67 1 rfl ?_
  have hT18 : Z[(rO O a1 5)]? = some (13, 8) := (wt_f (ci := 9) (k := 5) hW hZ1 rfl).2
  refine ok_getR (ci := 9) (k := 5) dX9_take_68 flRX9_35 rfl hW hZ1 (by decide) ?_
  refine ok_iconst (v := 0) dX9_take_71 (by decide) ?_
  refine ok_aload_n dX9_take_72 0 rfl ?_
  have hT19 : Z[(rO O a0 5)]? = some (13, 8) := (wt_f (ci := 9) (k := 5) hW hZ0 rfl).2
  refine ok_getR (ci := 9) (k := 5) dX9_take_73 flRX9_35 rfl hW hZ0 (by decide) ?_
  refine ok_iconst (v := 0) dX9_take_76 (by decide) ?_
  refine ok_bipush (v := 8) dX9_take_77 (by decide) ?_
  obtain ⟨I20, eI20, h⟩ := blE h
  refine ok_copy2 (N := 8) (S := 0) (T := 0) dX9_take_79 lkRX9_49 hT18 hT19 (by decide) (by decide) (by decide) (by decide) (by decide) (by decide) (by decide) (by decide) (Nat.le_of_ble_eq_true rfl) (by show 1 ≤ d + _; omega) eI20 ?_
  refine ok_aload_n dX9_take_82 0 rfl ?_
  refine ok_aload_n dX9_take_83 1 rfl ?_
  refine ok_getI (ci := 9) (k := 6) dX9_take_84 flRX9_55 rfl hZ1 (by decide) ?_
  obtain ⟨I21, eI21, h⟩ := blE h
  refine ok_putI2 (ci := 9) (k := 6) dX9_take_87 flRX9_55 rfl (Or.inl rfl) hZ0 (by decide) eI21 ?_
  refine ok_aload_n dX9_take_90 0 rfl ?_
  refine ok_aload_n dX9_take_91 1 rfl ?_
  refine ok_getI (ci := 9) (k := 7) dX9_take_92 flRX9_58 rfl hZ1 (by decide) ?_
  obtain ⟨I22, eI22, h⟩ := blE h
  refine ok_putI2 (ci := 9) (k := 7) dX9_take_95 flRX9_58 rfl (Or.inl rfl) hZ0 (by decide) eI22 ?_
  refine ok_aload_n dX9_take_98 0 rfl ?_
  refine ok_aload_n dX9_take_99 1 rfl ?_
  refine ok_getI (ci := 9) (k := 8) dX9_take_100 flRX9_61 rfl hZ1 (by decide) ?_
  obtain ⟨I23, eI23, h⟩ := blE h
  refine ok_putI2 (ci := 9) (k := 8) dX9_take_103 flRX9_61 rfl (Or.inl rfl) hZ0 (by decide) eI23 ?_
  refine ok_aload_n dX9_take_106 0 rfl ?_
  refine ok_aload_n dX9_take_107 1 rfl ?_
  refine ok_getI (ci := 9) (k := 9) dX9_take_108 flRX9_38 rfl hZ1 (by decide) ?_
  obtain ⟨I24, eI24, h⟩ := blE h
  refine ok_putI2 (ci := 9) (k := 9) dX9_take_111 flRX9_38 rfl (Or.inl rfl) hZ0 (by decide) eI24 ?_
  cases h
  exact ok_vret dX9_take_114 hQ
theorem k9_take {g : pG} {Q : Option Value → pW → Prop} {Z : pZ} {I : (Nat → Nat → Int32)} {L : (Nat → Nat → Int64)} {O : (Nat → Nat → Option Nat)} {n : Nat} {a0 : Nat} {a1 : Nat} {res : (Nat → Nat → Int32)} (d : Nat) (hW : WT Z O) (hZ0 : Z[a0]? = some (9, 10)) (hZ1 : Z[a1]? = some (9, 10)) (h : f9_take n I O a0 a1 = some res) (hQ : Q none (Z, res, L, O)) : CT g (d + 5) m9_take 0 0 [.ref a0, .ref a1] (Z, I, L, O) Q :=
  ct_of_ok (mt := m9_take) (ini := false) mo9_take.2.2.2.2 (fun h => by cases h) (Nat.le_of_ble_eq_true rfl) (o9_take d hW hZ0 hZ1 h ⟨trivial, hQ, rfl, rfl⟩)
theorem dX9_keepStep_0 : decode cX9_keepStep 0 = .ok (.aload_n 0, 1) := by decide +kernel
theorem dX9_keepStep_1 : decode cX9_keepStep 1 = .ok (.getfield 21, 3) := by decide +kernel
theorem dX9_keepStep_4 : decode cX9_keepStep 4 = .ok (.aload_n 0, 1) := by decide +kernel
theorem dX9_keepStep_5 : decode cX9_keepStep 5 = .ok (.getfield 12, 3) := by decide +kernel
theorem dX9_keepStep_8 : decode cX9_keepStep 8 = .ok (.getfield 64, 3) := by decide +kernel
theorem dX9_keepStep_11 : decode cX9_keepStep 11 = .ok (.invokevirtual 68, 3) := by decide +kernel
theorem dX9_keepStep_14 : decode cX9_keepStep 14 = .ok (.return_, 1) := by decide +kernel
def m9_keepStep : pMT := (yX9_keepStep, cX9_keepStep, 1, none)
theorem mo9_keepStep : mOK m9_keepStep 0 := ⟨tb_i 672 (by decide +kernel), wi_RX9, ⟨wn_RX9.1, wn_RX9.2, by decide +kernel⟩, by decide, plainFor_of_name wp_RX9⟩
theorem mv9_keepStep : mV m9_keepStep := ⟨tb_i 670 (by decide +kernel), tb_i 671 (by decide +kernel)⟩
def f9_keepStep (I : (Nat → Nat → Int32)) (O : (Nat → Nat → Option Nat)) (a0 : Nat) : Option ((Nat → Nat → Int32)) := (f0_keep I O (rO O a0 1) (rO O (rO O a0 0) 2)).bind fun r4 => some (r4)
set_option maxHeartbeats 4000000 in
set_option maxRecDepth 20000 in
theorem o9_keepStep {g : pG} {Qx : Option Value → pW → Prop} {Z : pZ} {I : (Nat → Nat → Int32)} {L : (Nat → Nat → Int64)} {O : (Nat → Nat → Option Nat)} {a0 : Nat} {res : (Nat → Nat → Int32)} (d : Nat) (hW : WT Z O) (hZ0 : Z[a0]? = some (9, 10)) (h : f9_keepStep I O a0 = some res) (hQ : Qx none (Z, res, L, O)) : Ok g (d + 5, RX9, cX9_keepStep, 1, false, 0, 0, Z.length, pSl Z) Qx 0 [(0, .ref a0)] [] (Z, I, L, O) := by
  unfold f9_keepStep at h
  refine ok_aload_n dX9_keepStep_0 0 rfl ?_
  have hT1 : Z[(rO O a0 1)]? = some (0, 3) := (wt_f (ci := 9) (k := 1) hW hZ0 rfl).2
  refine ok_getR (ci := 9) (k := 1) dX9_keepStep_1 flRX9_21 rfl hW hZ0 (by decide) ?_
  refine ok_aload_n dX9_keepStep_4 0 rfl ?_
  have hT2 : Z[(rO O a0 0)]? = some (10, 5) := (wt_f (ci := 9) (k := 0) hW hZ0 rfl).2
  refine ok_getR (ci := 9) (k := 0) dX9_keepStep_5 flRX9_12 rfl hW hZ0 (by decide) ?_
  have hT3 : Z[(rO O (rO O a0 0) 2)]? = some (3, 6) := (wt_f (ci := 10) (k := 2) hW hT2 rfl).2
  refine ok_getR (ci := 10) (k := 2) dX9_keepStep_8 flRX9_64 rfl hW hT2 (by decide) ?_
  obtain ⟨r4, hr5, h⟩ := bd h
  refine ok_callV (d := ((d + 0) + 4)) (mt := m0_keep) (mc := 0) (ms := 0) (As := [.ref (rO O (rO O a0 0) 2)]) (r := []) dX9_keepStep_11 mo0_keep mv0_keep lkRX9_68 rfl hT1 (q := (RX0, TX0, 3)) rfl rfl rfl (Nat.le_of_ble_eq_true rfl) (by show _ + 1 ≤ d + _; omega) (Nat.le_refl _) (Nat.le_refl _) (pRt_mono ?_)
  refine k0_keep (d + 0) hW hT1 hT3 hr5 ?_
  intro _
  show Ok g _ Qx 14 [(0, .ref a0)] [] (Z, r4, L, O)
  cases h
  exact ok_vret dX9_keepStep_14 hQ
theorem k9_keepStep {g : pG} {Q : Option Value → pW → Prop} {Z : pZ} {I : (Nat → Nat → Int32)} {L : (Nat → Nat → Int64)} {O : (Nat → Nat → Option Nat)} {a0 : Nat} {res : (Nat → Nat → Int32)} (d : Nat) (hW : WT Z O) (hZ0 : Z[a0]? = some (9, 10)) (h : f9_keepStep I O a0 = some res) (hQ : Q none (Z, res, L, O)) : CT g (d + 5) m9_keepStep 0 0 [.ref a0] (Z, I, L, O) Q :=
  ct_of_ok (mt := m9_keepStep) (ini := false) mo9_keepStep.2.2.2.2 (fun h => by cases h) (Nat.le_of_ble_eq_true rfl) (o9_keepStep d hW hZ0 h ⟨trivial, hQ, rfl, rfl⟩)
